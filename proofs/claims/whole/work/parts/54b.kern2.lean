theorem kerR_1_0 {F : Int → Int → Int} {cp rp : Int → Int} : kerR F 1 cp rp 0 = 1 * (1 * 1) := rfl
theorem kerC_1_0 {F : Int → Int → Int} {cp rp : Int → Int} : kerC F 1 cp rp 0 = 1 * 1 := rfl
theorem kerR_2_0 {F : Int → Int → Int} {cp rp : Int → Int} : kerR F 2 cp rp 0 = (-1) * ((-1) * (F (cp 1) (rp 1) - F (cp 0) (rp 1))) := rfl
theorem kerR_2_1 {F : Int → Int → Int} {cp rp : Int → Int} : kerR F 2 cp rp 1 = 1 * ((-1) * (F (cp 1) (rp 0) - F (cp 0) (rp 0))) := rfl
theorem kerC_2_0 {F : Int → Int → Int} {cp rp : Int → Int} : kerC F 2 cp rp 0 = 1 * (F (cp 1) (rp 1) - F (cp 1) (rp 0)) := rfl
theorem kerC_2_1 {F : Int → Int → Int} {cp rp : Int → Int} : kerC F 2 cp rp 1 = (-1) * (F (cp 0) (rp 1) - F (cp 0) (rp 0)) := rfl
theorem kerR_3_0 {F : Int → Int → Int} {cp rp : Int → Int} : kerR F 3 cp rp 0 = 1 * (1 * ((F (cp 1) (rp 1) - F (cp 0) (rp 1)) * (F (cp 2) (rp 2) - F (cp 0) (rp 2)) - (F (cp 1) (rp 2) - F (cp 0) (rp 2)) * (F (cp 2) (rp 1) - F (cp 0) (rp 1)))) := rfl
theorem kerR_3_1 {F : Int → Int → Int} {cp rp : Int → Int} : kerR F 3 cp rp 1 = (-1) * (1 * ((F (cp 1) (rp 0) - F (cp 0) (rp 0)) * (F (cp 2) (rp 2) - F (cp 0) (rp 2)) - (F (cp 1) (rp 2) - F (cp 0) (rp 2)) * (F (cp 2) (rp 0) - F (cp 0) (rp 0)))) := rfl
theorem kerR_3_2 {F : Int → Int → Int} {cp rp : Int → Int} : kerR F 3 cp rp 2 = 1 * (1 * ((F (cp 1) (rp 0) - F (cp 0) (rp 0)) * (F (cp 2) (rp 1) - F (cp 0) (rp 1)) - (F (cp 1) (rp 1) - F (cp 0) (rp 1)) * (F (cp 2) (rp 0) - F (cp 0) (rp 0)))) := rfl
theorem kerC_3_0 {F : Int → Int → Int} {cp rp : Int → Int} : kerC F 3 cp rp 0 = 1 * ((F (cp 1) (rp 1) - F (cp 1) (rp 0)) * (F (cp 2) (rp 2) - F (cp 2) (rp 0)) - (F (cp 1) (rp 2) - F (cp 1) (rp 0)) * (F (cp 2) (rp 1) - F (cp 2) (rp 0))) := rfl
theorem kerC_3_1 {F : Int → Int → Int} {cp rp : Int → Int} : kerC F 3 cp rp 1 = (-1) * ((F (cp 0) (rp 1) - F (cp 0) (rp 0)) * (F (cp 2) (rp 2) - F (cp 2) (rp 0)) - (F (cp 0) (rp 2) - F (cp 0) (rp 0)) * (F (cp 2) (rp 1) - F (cp 2) (rp 0))) := rfl
theorem kerC_3_2 {F : Int → Int → Int} {cp rp : Int → Int} : kerC F 3 cp rp 2 = 1 * ((F (cp 0) (rp 1) - F (cp 0) (rp 0)) * (F (cp 1) (rp 2) - F (cp 1) (rp 0)) - (F (cp 0) (rp 2) - F (cp 0) (rp 0)) * (F (cp 1) (rp 1) - F (cp 1) (rp 0))) := rfl
theorem kerR_4_0 {F : Int → Int → Int} {cp rp : Int → Int} : kerR F 4 cp rp 0 = (-1) * ((-1) * ((F (cp 1) (rp 1) - F (cp 0) (rp 1)) * ((F (cp 2) (rp 2) - F (cp 0) (rp 2)) * (F (cp 3) (rp 3) - F (cp 0) (rp 3)) - (F (cp 2) (rp 3) - F (cp 0) (rp 3)) * (F (cp 3) (rp 2) - F (cp 0) (rp 2))) - (F (cp 1) (rp 2) - F (cp 0) (rp 2)) * ((F (cp 2) (rp 1) - F (cp 0) (rp 1)) * (F (cp 3) (rp 3) - F (cp 0) (rp 3)) - (F (cp 2) (rp 3) - F (cp 0) (rp 3)) * (F (cp 3) (rp 1) - F (cp 0) (rp 1))) + (F (cp 1) (rp 3) - F (cp 0) (rp 3)) * ((F (cp 2) (rp 1) - F (cp 0) (rp 1)) * (F (cp 3) (rp 2) - F (cp 0) (rp 2)) - (F (cp 2) (rp 2) - F (cp 0) (rp 2)) * (F (cp 3) (rp 1) - F (cp 0) (rp 1))))) := rfl
theorem kerR_4_1 {F : Int → Int → Int} {cp rp : Int → Int} : kerR F 4 cp rp 1 = 1 * ((-1) * ((F (cp 1) (rp 0) - F (cp 0) (rp 0)) * ((F (cp 2) (rp 2) - F (cp 0) (rp 2)) * (F (cp 3) (rp 3) - F (cp 0) (rp 3)) - (F (cp 2) (rp 3) - F (cp 0) (rp 3)) * (F (cp 3) (rp 2) - F (cp 0) (rp 2))) - (F (cp 1) (rp 2) - F (cp 0) (rp 2)) * ((F (cp 2) (rp 0) - F (cp 0) (rp 0)) * (F (cp 3) (rp 3) - F (cp 0) (rp 3)) - (F (cp 2) (rp 3) - F (cp 0) (rp 3)) * (F (cp 3) (rp 0) - F (cp 0) (rp 0))) + (F (cp 1) (rp 3) - F (cp 0) (rp 3)) * ((F (cp 2) (rp 0) - F (cp 0) (rp 0)) * (F (cp 3) (rp 2) - F (cp 0) (rp 2)) - (F (cp 2) (rp 2) - F (cp 0) (rp 2)) * (F (cp 3) (rp 0) - F (cp 0) (rp 0))))) := rfl
theorem kerR_4_2 {F : Int → Int → Int} {cp rp : Int → Int} : kerR F 4 cp rp 2 = (-1) * ((-1) * ((F (cp 1) (rp 0) - F (cp 0) (rp 0)) * ((F (cp 2) (rp 1) - F (cp 0) (rp 1)) * (F (cp 3) (rp 3) - F (cp 0) (rp 3)) - (F (cp 2) (rp 3) - F (cp 0) (rp 3)) * (F (cp 3) (rp 1) - F (cp 0) (rp 1))) - (F (cp 1) (rp 1) - F (cp 0) (rp 1)) * ((F (cp 2) (rp 0) - F (cp 0) (rp 0)) * (F (cp 3) (rp 3) - F (cp 0) (rp 3)) - (F (cp 2) (rp 3) - F (cp 0) (rp 3)) * (F (cp 3) (rp 0) - F (cp 0) (rp 0))) + (F (cp 1) (rp 3) - F (cp 0) (rp 3)) * ((F (cp 2) (rp 0) - F (cp 0) (rp 0)) * (F (cp 3) (rp 1) - F (cp 0) (rp 1)) - (F (cp 2) (rp 1) - F (cp 0) (rp 1)) * (F (cp 3) (rp 0) - F (cp 0) (rp 0))))) := rfl
theorem kerR_4_3 {F : Int → Int → Int} {cp rp : Int → Int} : kerR F 4 cp rp 3 = 1 * ((-1) * ((F (cp 1) (rp 0) - F (cp 0) (rp 0)) * ((F (cp 2) (rp 1) - F (cp 0) (rp 1)) * (F (cp 3) (rp 2) - F (cp 0) (rp 2)) - (F (cp 2) (rp 2) - F (cp 0) (rp 2)) * (F (cp 3) (rp 1) - F (cp 0) (rp 1))) - (F (cp 1) (rp 1) - F (cp 0) (rp 1)) * ((F (cp 2) (rp 0) - F (cp 0) (rp 0)) * (F (cp 3) (rp 2) - F (cp 0) (rp 2)) - (F (cp 2) (rp 2) - F (cp 0) (rp 2)) * (F (cp 3) (rp 0) - F (cp 0) (rp 0))) + (F (cp 1) (rp 2) - F (cp 0) (rp 2)) * ((F (cp 2) (rp 0) - F (cp 0) (rp 0)) * (F (cp 3) (rp 1) - F (cp 0) (rp 1)) - (F (cp 2) (rp 1) - F (cp 0) (rp 1)) * (F (cp 3) (rp 0) - F (cp 0) (rp 0))))) := rfl
theorem kerC_4_0 {F : Int → Int → Int} {cp rp : Int → Int} : kerC F 4 cp rp 0 = 1 * ((F (cp 1) (rp 1) - F (cp 1) (rp 0)) * ((F (cp 2) (rp 2) - F (cp 2) (rp 0)) * (F (cp 3) (rp 3) - F (cp 3) (rp 0)) - (F (cp 2) (rp 3) - F (cp 2) (rp 0)) * (F (cp 3) (rp 2) - F (cp 3) (rp 0))) - (F (cp 1) (rp 2) - F (cp 1) (rp 0)) * ((F (cp 2) (rp 1) - F (cp 2) (rp 0)) * (F (cp 3) (rp 3) - F (cp 3) (rp 0)) - (F (cp 2) (rp 3) - F (cp 2) (rp 0)) * (F (cp 3) (rp 1) - F (cp 3) (rp 0))) + (F (cp 1) (rp 3) - F (cp 1) (rp 0)) * ((F (cp 2) (rp 1) - F (cp 2) (rp 0)) * (F (cp 3) (rp 2) - F (cp 3) (rp 0)) - (F (cp 2) (rp 2) - F (cp 2) (rp 0)) * (F (cp 3) (rp 1) - F (cp 3) (rp 0)))) := rfl
theorem kerC_4_1 {F : Int → Int → Int} {cp rp : Int → Int} : kerC F 4 cp rp 1 = (-1) * ((F (cp 0) (rp 1) - F (cp 0) (rp 0)) * ((F (cp 2) (rp 2) - F (cp 2) (rp 0)) * (F (cp 3) (rp 3) - F (cp 3) (rp 0)) - (F (cp 2) (rp 3) - F (cp 2) (rp 0)) * (F (cp 3) (rp 2) - F (cp 3) (rp 0))) - (F (cp 0) (rp 2) - F (cp 0) (rp 0)) * ((F (cp 2) (rp 1) - F (cp 2) (rp 0)) * (F (cp 3) (rp 3) - F (cp 3) (rp 0)) - (F (cp 2) (rp 3) - F (cp 2) (rp 0)) * (F (cp 3) (rp 1) - F (cp 3) (rp 0))) + (F (cp 0) (rp 3) - F (cp 0) (rp 0)) * ((F (cp 2) (rp 1) - F (cp 2) (rp 0)) * (F (cp 3) (rp 2) - F (cp 3) (rp 0)) - (F (cp 2) (rp 2) - F (cp 2) (rp 0)) * (F (cp 3) (rp 1) - F (cp 3) (rp 0)))) := rfl
theorem kerC_4_2 {F : Int → Int → Int} {cp rp : Int → Int} : kerC F 4 cp rp 2 = 1 * ((F (cp 0) (rp 1) - F (cp 0) (rp 0)) * ((F (cp 1) (rp 2) - F (cp 1) (rp 0)) * (F (cp 3) (rp 3) - F (cp 3) (rp 0)) - (F (cp 1) (rp 3) - F (cp 1) (rp 0)) * (F (cp 3) (rp 2) - F (cp 3) (rp 0))) - (F (cp 0) (rp 2) - F (cp 0) (rp 0)) * ((F (cp 1) (rp 1) - F (cp 1) (rp 0)) * (F (cp 3) (rp 3) - F (cp 3) (rp 0)) - (F (cp 1) (rp 3) - F (cp 1) (rp 0)) * (F (cp 3) (rp 1) - F (cp 3) (rp 0))) + (F (cp 0) (rp 3) - F (cp 0) (rp 0)) * ((F (cp 1) (rp 1) - F (cp 1) (rp 0)) * (F (cp 3) (rp 2) - F (cp 3) (rp 0)) - (F (cp 1) (rp 2) - F (cp 1) (rp 0)) * (F (cp 3) (rp 1) - F (cp 3) (rp 0)))) := rfl
theorem kerC_4_3 {F : Int → Int → Int} {cp rp : Int → Int} : kerC F 4 cp rp 3 = (-1) * ((F (cp 0) (rp 1) - F (cp 0) (rp 0)) * ((F (cp 1) (rp 2) - F (cp 1) (rp 0)) * (F (cp 2) (rp 3) - F (cp 2) (rp 0)) - (F (cp 1) (rp 3) - F (cp 1) (rp 0)) * (F (cp 2) (rp 2) - F (cp 2) (rp 0))) - (F (cp 0) (rp 2) - F (cp 0) (rp 0)) * ((F (cp 1) (rp 1) - F (cp 1) (rp 0)) * (F (cp 2) (rp 3) - F (cp 2) (rp 0)) - (F (cp 1) (rp 3) - F (cp 1) (rp 0)) * (F (cp 2) (rp 1) - F (cp 2) (rp 0))) + (F (cp 0) (rp 3) - F (cp 0) (rp 0)) * ((F (cp 1) (rp 1) - F (cp 1) (rp 0)) * (F (cp 2) (rp 2) - F (cp 2) (rp 0)) - (F (cp 1) (rp 2) - F (cp 1) (rp 0)) * (F (cp 2) (rp 1) - F (cp 2) (rp 0)))) := rfl
/-- the cellars' numbers together are the rows' -/
theorem ker_sc {F : Int → Int → Int} {k : Int} {cp rp : Int → Int} (k1 : 1 ≤ k) (k4 : k ≤ 4) : sm (kerC F k cp rp) k = kerS F k cp rp := by
  unfold kerS
  rcases (by omega : k = 1 ∨ k = 2 ∨ k = 3 ∨ k = 4) with e | e | e | e <;> subst e
  · rw [sm_1, sm_1, kerC_1_0, kerR_1_0]; grind
  · rw [sm_2, sm_2, kerC_2_0, kerC_2_1, kerR_2_0, kerR_2_1]; grind
  · rw [sm_3, sm_3, kerC_3_0, kerC_3_1, kerC_3_2, kerR_3_0, kerR_3_1, kerR_3_2]; grind
  · rw [sm_4, sm_4, kerC_4_0, kerC_4_1, kerC_4_2, kerC_4_3, kerR_4_0, kerR_4_1, kerR_4_2, kerR_4_3]; grind
theorem am {a b A B : Int} (a0 : -A ≤ a) (a1 : a ≤ A) (b0 : -B ≤ b) (b1 : b ≤ B) : -(A * B) ≤ a * b ∧ a * b ≤ A * B := by
  have h1 := Int.mul_nonneg (show 0 ≤ A - a by omega) (show 0 ≤ B + b by omega)
  have h2 := Int.mul_nonneg (show 0 ≤ A + a by omega) (show 0 ≤ B - b by omega)
  have h3 := Int.mul_nonneg (show 0 ≤ A - a by omega) (show 0 ≤ B - b by omega)
  have h4 := Int.mul_nonneg (show 0 ≤ A + a by omega) (show 0 ≤ B + b by omega)
  rw [Int.sub_mul, Int.mul_add, Int.mul_add] at h1
  rw [Int.add_mul, Int.mul_sub, Int.mul_sub] at h2
  rw [Int.sub_mul, Int.mul_sub, Int.mul_sub] at h3
  rw [Int.add_mul, Int.mul_add, Int.mul_add] at h4
  omega
theorem detV_bd {m : Int → Int} {k : Int} (k0 : 0 ≤ k) (k3 : k ≤ 3) (h : ∀ x : Int, 0 ≤ x → x < 9 → x % 3 < k → x / 3 < k → -560 ≤ m x ∧ m x ≤ 560) : -1053696000 ≤ detV m k ∧ detV m k ≤ 1053696000 := by
  unfold detV
  by_cases c0 : k = 0
  · rw [if_pos c0]; omega
  rw [if_neg c0]
  have h0 := h 0 (by omega) (by omega) (by omega) (by omega)
  by_cases c1 : k = 1
  · rw [if_pos c1]; omega
  rw [if_neg c1]
  have h1 := h 1 (by omega) (by omega) (by omega) (by omega)
  have h3 := h 3 (by omega) (by omega) (by omega) (by omega)
  have h4 := h 4 (by omega) (by omega) (by omega) (by omega)
  by_cases c2 : k = 2
  · rw [if_pos c2]
    have := am h0.1 h0.2 h4.1 h4.2
    have := am h1.1 h1.2 h3.1 h3.2
    omega
  rw [if_neg c2]
  have h2 := h 2 (by omega) (by omega) (by omega) (by omega)
  have h5 := h 5 (by omega) (by omega) (by omega) (by omega)
  have h6 := h 6 (by omega) (by omega) (by omega) (by omega)
  have h7 := h 7 (by omega) (by omega) (by omega) (by omega)
  have h8 := h 8 (by omega) (by omega) (by omega) (by omega)
  have q1 := am h4.1 h4.2 h8.1 h8.2
  have q2 := am h5.1 h5.2 h7.1 h7.2
  have q3 := am h3.1 h3.2 h8.1 h8.2
  have q4 := am h5.1 h5.2 h6.1 h6.2
  have q5 := am h3.1 h3.2 h7.1 h7.2
  have q6 := am h4.1 h4.2 h6.1 h6.2
  have r1 := am (b := m 4 * m 8 - m 5 * m 7) (B := 627200) h0.1 h0.2 (by omega) (by omega)
  have r2 := am (b := m 3 * m 8 - m 5 * m 6) (B := 627200) h1.1 h1.2 (by omega) (by omega)
  have r3 := am (b := m 3 * m 7 - m 4 * m 6) (B := 627200) h2.1 h2.2 (by omega) (by omega)
  omega
theorem detV_congr {m m' : Int → Int} {k : Int} (k0 : 0 ≤ k) (k3 : k ≤ 3) (h : ∀ x : Int, 0 ≤ x → x < 9 → x % 3 < k → x / 3 < k → m x = m' x) : detV m k = detV m' k := by
  unfold detV
  by_cases c0 : k = 0
  · rw [if_pos c0, if_pos c0]
  rw [if_neg c0, if_neg c0, h 0 (by omega) (by omega) (by omega) (by omega)]
  by_cases c1 : k = 1
  · rw [if_pos c1, if_pos c1]
  rw [if_neg c1, if_neg c1, h 1 (by omega) (by omega) (by omega) (by omega), h 3 (by omega) (by omega) (by omega) (by omega), h 4 (by omega) (by omega) (by omega) (by omega)]
  by_cases c2 : k = 2
  · rw [if_pos c2, if_pos c2]
  rw [if_neg c2, if_neg c2, h 2 (by omega) (by omega) (by omega) (by omega), h 5 (by omega) (by omega) (by omega) (by omega), h 6 (by omega) (by omega) (by omega) (by omega), h 7 (by omega) (by omega) (by omega) (by omega), h 8 (by omega) (by omega) (by omega) (by omega)]
theorem ski_in {i l k : Int} (l0 : 0 ≤ l) (l1 : l < k - 1) (i0 : 0 ≤ i) : 0 ≤ ski i l ∧ ski i l < k := by
  unfold ski; split <;> omega
theorem onV_congr {F F' : Int → Int → Int} {k : Int} {cp cp' q q' : Int → Int} (k1 : 1 ≤ k) (k4 : k ≤ 4) (h : ∀ a b : Int, 0 ≤ a → a < k → 0 ≤ b → b < k - 1 → F (cp a) (q b) = F' (cp' a) (q' b)) : onV F k cp q = onV F' k cp' q' := by
  unfold onV
  congr 1
  refine detV_congr (by omega) (by omega) (fun x x0 x9 c1 c2 => ?_)
  rw [h (x / 3 + 1) (x % 3) (by omega) (by omega) (by omega) (by omega), h 0 (x % 3) (by omega) (by omega) (by omega) (by omega)]
theorem kerR_congr {F F' : Int → Int → Int} {k j : Int} {cp cp' rp rp' : Int → Int} (k1 : 1 ≤ k) (k4 : k ≤ 4) (j0 : 0 ≤ j) (h : ∀ a b : Int, 0 ≤ a → a < k → 0 ≤ b → b < k → F (cp a) (rp b) = F' (cp' a) (rp' b)) : kerR F k cp rp j = kerR F' k cp' rp' j := by
  unfold kerR
  congr 1
  refine onV_congr k1 k4 (fun a b a0 a1 b0 b1 => ?_)
  have := ski_in b0 b1 j0
  exact h a _ a0 a1 this.1 this.2
theorem kerC_congr {F F' : Int → Int → Int} {k i : Int} {cp cp' rp rp' : Int → Int} (k1 : 1 ≤ k) (k4 : k ≤ 4) (i0 : 0 ≤ i) (h : ∀ a b : Int, 0 ≤ a → a < k → 0 ≤ b → b < k → F (cp a) (rp b) = F' (cp' a) (rp' b)) : kerC F k cp rp i = kerC F' k cp' rp' i := by
  unfold kerC
  congr 1
  refine detV_congr (by omega) (by omega) (fun x x0 x9 c1 c2 => ?_)
  have := ski_in (i := i) (l := x / 3) (k := k) (by omega) c2 i0
  rw [h _ (x % 3 + 1) this.1 this.2 (by omega) (by omega), h _ 0 this.1 this.2 (by omega) (by omega)]
theorem onV_bd {F : Int → Int → Int} {k : Int} {cp q : Int → Int} (k1 : 1 ≤ k) (k4 : k ≤ 4) (h : ∀ a b : Int, 0 ≤ a → a < k → 0 ≤ b → b < k - 1 → 0 ≤ F (cp a) (q b) ∧ F (cp a) (q b) ≤ 560) : -1053696000 ≤ onV F k cp q ∧ onV F k cp q ≤ 1053696000 := by
  have := detV_bd (m := fun x => F (cp (x / 3 + 1)) (q (x % 3)) - F (cp 0) (q (x % 3))) (k := k - 1) (by omega) (by omega) (fun x x0 x9 c1 c2 => by
    have h1 := h (x / 3 + 1) (x % 3) (by omega) (by omega) (by omega) (by omega)
    have h2 := h 0 (x % 3) (by omega) (by omega) (by omega) (by omega)
    show -560 ≤ F (cp (x / 3 + 1)) (q (x % 3)) - F (cp 0) (q (x % 3)) ∧ F (cp (x / 3 + 1)) (q (x % 3)) - F (cp 0) (q (x % 3)) ≤ 560
    omega)
  unfold onV
  split <;> omega
theorem kerR_bd {F : Int → Int → Int} {k j : Int} {cp rp : Int → Int} (k1 : 1 ≤ k) (k4 : k ≤ 4) (j0 : 0 ≤ j) (h : ∀ a b : Int, 0 ≤ a → a < k → 0 ≤ b → b < k → 0 ≤ F (cp a) (rp b) ∧ F (cp a) (rp b) ≤ 560) : -1053696000 ≤ kerR F k cp rp j ∧ kerR F k cp rp j ≤ 1053696000 := by
  have := onV_bd (F := F) (cp := cp) (q := fun l => rp (ski j l)) k1 k4 (fun a b a0 a1 b0 b1 => by
    have := ski_in b0 b1 j0
    exact h a _ a0 a1 this.1 this.2)
  unfold kerR
  split <;> omega
theorem kerC_bd {F : Int → Int → Int} {k i : Int} {cp rp : Int → Int} (k1 : 1 ≤ k) (k4 : k ≤ 4) (i0 : 0 ≤ i) (h : ∀ a b : Int, 0 ≤ a → a < k → 0 ≤ b → b < k → 0 ≤ F (cp a) (rp b) ∧ F (cp a) (rp b) ≤ 560) : -1053696000 ≤ kerC F k cp rp i ∧ kerC F k cp rp i ≤ 1053696000 := by
  have := detV_bd (m := fun x => F (cp (ski i (x / 3))) (rp (x % 3 + 1)) - F (cp (ski i (x / 3))) (rp 0)) (k := k - 1) (by omega) (by omega) (fun x x0 x9 c1 c2 => by
    have := ski_in (i := i) (l := x / 3) (k := k) (by omega) c2 i0
    have h1 := h _ (x % 3 + 1) this.1 this.2 (by omega) (by omega)
    have h2 := h _ 0 this.1 this.2 (by omega) (by omega)
    show -560 ≤ F (cp (ski i (x / 3))) (rp (x % 3 + 1)) - F (cp (ski i (x / 3))) (rp 0) ∧ F (cp (ski i (x / 3))) (rp (x % 3 + 1)) - F (cp (ski i (x / 3))) (rp 0) ≤ 560
    omega)
  unfold kerC
  split <;> omega
theorem sm_mulL {f : Int → Int} {n c : Int} (hn : 0 ≤ n) : sm (fun i => c * f i) n = c * sm f n := by
  rw [Int.mul_comm, ← sm_mul hn]
  exact sm_congr fun i _ _ => Int.mul_comm _ _
/-- he who goes can't be held to less by other rows than by a kernel -/
theorem good_dual {F : Int → Int → Int} {n N k : Int} {cp rp : Int → Int} (h : Good F n N k cp rp) (k1 : 1 ≤ k) (k4 : k ≤ 4) (hcp : ∀ i, 0 ≤ i → i < k → 0 ≤ cp i ∧ cp i < n) {kk A : Int} {q y : Int → Int} (hkk : 0 ≤ kk) (hq : ∀ j, 0 ≤ j → j < kk → 0 ≤ q j ∧ q j < N) (hy : ∀ j, 0 ≤ j → j < kk → 0 ≤ y j) (hA : ∀ c, 0 ≤ c → c < n → sm (fun j => y j * F c (q j)) kk ≤ A) : sm y kk * (sgn (kerS F k cp rp) * kerD F k cp rp) ≤ A * (sgn (kerS F k cp rp) * kerS F k cp rp) := by
  obtain ⟨g1, g2, g3, g4, g5⟩ := h
  generalize hs : sgn (kerS F k cp rp) = s at *
  have t1 : sm y kk * (s * kerD F k cp rp) ≤ sm (fun j => y j * sm (fun i => s * kerC F k cp rp i * F (cp i) (q j)) k) kk := by
    rw [← sm_mul hkk]
    refine sm_le (fun j j0 j1 => ?_) hkk
    exact Int.mul_le_mul_of_nonneg_left (g5 _ (hq j j0 j1).1 (hq j j0 j1).2) (hy j j0 j1)
  have t2 : sm (fun j => y j * sm (fun i => s * kerC F k cp rp i * F (cp i) (q j)) k) kk = sm (fun i => s * kerC F k cp rp i * sm (fun j => y j * F (cp i) (q j)) kk) k := by
    have e1 : sm (fun j => y j * sm (fun i => s * kerC F k cp rp i * F (cp i) (q j)) k) kk = sm (fun j => sm (fun i => s * kerC F k cp rp i * (y j * F (cp i) (q j))) k) kk := by
      refine sm_congr fun j _ _ => ?_
      rw [← sm_mulL (by omega)]
      refine sm_congr fun i _ _ => ?_
      show y j * (s * kerC F k cp rp i * F (cp i) (q j)) = s * kerC F k cp rp i * (y j * F (cp i) (q j))
      generalize s * kerC F k cp rp i = z
      rw [← Int.mul_assoc, ← Int.mul_assoc, Int.mul_comm (y j) z]
    rw [e1, sm_swap (by omega) hkk]
    refine sm_congr fun i _ _ => ?_
    exact sm_mulL hkk
  have t3 : sm (fun i => s * kerC F k cp rp i * sm (fun j => y j * F (cp i) (q j)) kk) k ≤ sm (fun i => s * kerC F k cp rp i * A) k := by
    refine sm_le (fun i i0 i1 => ?_) (by omega)
    exact Int.mul_le_mul_of_nonneg_left (hA _ (hcp i i0 i1).1 (hcp i i0 i1).2) (g3 i i0 i1)
  have t4 : sm (fun i => s * kerC F k cp rp i * A) k = A * (s * kerS F k cp rp) := by
    rw [sm_mul (by omega), sm_mulL (by omega), ker_sc k1 k4, Int.mul_comm]
  omega
