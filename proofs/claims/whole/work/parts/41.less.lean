def lessI (a b c d : Int) : Int := if a * d < c * b then 1 else 0
def P_X10_isLess (a b c d : Int) (_ : Mem) : Prop := (0 ≤ a ∧ a ≤ 9223372036854775807) ∧ (1 ≤ b ∧ b ≤ 9223372036854775807) ∧ (0 ≤ c ∧ c ≤ 9223372036854775807) ∧ (1 ≤ d ∧ d ≤ 9223372036854775807)
def F_X10_isLess (a b c d : Int) (_ : Mem) : Int := lessI a b c d
theorem lt_q {a b c d : Int} (hb : 0 < b) (hd : 0 < d) (h : a / b < c / d) : a * d < c * b := by
  have h1 := Int.emod_add_mul_ediv a b
  have h2 := Int.emod_lt_of_pos a hb
  have h3 := Int.emod_add_mul_ediv c d
  have h4 := Int.emod_nonneg c (show d ≠ 0 by omega)
  have h5 : b * (a / b) + b ≤ b * (c / d) := by
    have := Int.mul_le_mul_of_nonneg_left (show a / b + 1 ≤ c / d by omega) (show 0 ≤ b by omega)
    rw [Int.mul_add] at this
    omega
  have h6 : a < b * (c / d) := by omega
  have h7 : a * d < b * (c / d) * d := Int.mul_lt_mul_of_pos_right h6 hd
  have h8 : d * (c / d) ≤ c := by omega
  have h9 : d * (c / d) * b ≤ c * b := Int.mul_le_mul_of_nonneg_right h8 (by omega)
  have e : b * (c / d) * d = d * (c / d) * b := by rw [Int.mul_comm b, Int.mul_assoc, Int.mul_comm b d, ← Int.mul_assoc, Int.mul_comm (c / d) d]
  omega
theorem eq_q {a b c d : Int} (h : a / b = c / d) : a * d < c * b ↔ a % b * d < c % d * b := by
  have h1 := Int.emod_add_mul_ediv a b
  have h3 := Int.emod_add_mul_ediv c d
  have e1 : a * d = a % b * d + b * (a / b) * d := by rw [← Int.add_mul, h1]
  have e2 : c * b = c % d * b + d * (c / d) * b := by rw [← Int.add_mul, h3]
  have e : b * (c / d) * d = d * (c / d) * b := by rw [Int.mul_comm b, Int.mul_assoc, Int.mul_comm b d, ← Int.mul_assoc, Int.mul_comm (c / d) d]
  rw [e1, e2, h, e]
  omega
theorem less_turn {a b c d : Int} (hb : 0 < b) (hd : 0 < d) (h : a / b = c / d) : lessI a b c d = lessI d (c % d) b (a % b) := by
  unfold lessI
  have := eq_q h
  rw [Int.mul_comm (a % b) d, Int.mul_comm (c % d) b] at this
  by_cases q : a * d < c * b
  · rw [if_pos q, if_pos (this.mp q)]
  · rw [if_neg q, if_neg (fun w => q (this.mpr w))]
theorem half_mod {b r : Int} (r0 : 0 < r) (r1 : r < b) : 2 * (b % r) < b := by
  have m2 : 0 ≤ b % r ∧ b % r < r := ⟨Int.emod_nonneg _ (by omega), Int.emod_lt_of_pos _ r0⟩
  have h1 := Int.emod_add_mul_ediv b r
  have h2 : 1 ≤ b / r := (Int.le_ediv_iff_mul_le r0).mpr (by omega)
  have h3 : r * 1 ≤ r * (b / r) := Int.mul_le_mul_of_nonneg_left h2 (by omega)
  omega
def S_X10_isLess : S0t := fun as μ Q => match as with
  | [(1, x0), (1, x1), (1, x2), (1, x3)] => P_X10_isLess x0 x1 x2 x3 μ ∧ Q μ (some (kI (F_X10_isLess x0 x1 x2 x3 μ)))
  | _ => False
theorem mono_X10_isLess : Mono S_X10_isLess := by
  intro as μ Q Q' h hS
  unfold S_X10_isLess at hS ⊢
  split at hS
  · exact ⟨hS.1, h _ _ hS.2⟩
  · exact hS.elim
def iX10_isLess : Inf := (kX10_isLess, fTX10, pTX10, cTX10, lTX10, sTX10, [])
theorem ok_X10_isLess : infOK iX10_isLess mX10_isLess RX10 0 0 := ⟨kkX10_isLess, fTX10_ok, pTX10_ok _, cTX10_ok, lTX10_ok, sTX10_ok, c_nil⟩
theorem mt_X10_isLess : mtOK [] RX10 0 0 := mt_nil
abbrev V_X10_isLess (R : Mem → Option AV → Prop) (pc : Nat) (lc : List (Nat × AV)) (μ : Mem) : Prop := VM mX10_isLess RX10 0 0 R pc lc [] μ
set_option maxRecDepth 20000 in
theorem vc_X10_isLess_0 {R : Mem → Option AV → Prop} {a b c d : Int} {μ : Mem} (H : V_X10_isLess R 3 [(0, kL a), (2, kL b), (4, kL c), (6, kL d), (8, kI 0)] μ) : V_X10_isLess R 0 [(0, kL a), (2, kL b), (4, kL c), (6, kL d)] μ := by
  refine vm_step2 mt_X10_isLess ok_X10_isLess [(3, [0, 2, 4, 6, 8])] 1000 ?_
  show V_X10_isLess R 3 [(0, kL a), (2, kL b), (4, kL c), (6, kL d), (8, kI 0)] μ
  exact H
set_option maxRecDepth 20000 in
theorem vc_X10_isLess_3 {R : Mem → Option AV → Prop} {v0 v2 v4 v6 v8 : Int} {μ : Mem} (H : r32 v8 ∧ (((1000000 : Int) ≤ v8) → R μ (some (kI 0))) ∧ (¬ ((1000000 : Int) ≤ v8) → r64 v2 ∧ ((v2 ≤ (0 : Int)) → R μ (some (kI 0))) ∧ (¬ (v2 ≤ (0 : Int)) → r64 v6 ∧ ((v6 ≤ (0 : Int)) → R μ (some (kI 0))) ∧ (¬ (v6 ≤ (0 : Int)) → (r64 v0 ∧ r64 v2 ∧ v2 ≠ 0) ∧ (r64 v4 ∧ r64 v6 ∧ v6 ≠ 0) ∧ r64 (Int.tdiv v0 v2) ∧ r64 (Int.tdiv v4 v6) ∧ (((Int.tdiv v0 v2) = (Int.tdiv v4 v6)) → r64 (v0 - ((Int.tdiv v0 v2) * v2)) ∧ (((v0 - ((Int.tdiv v0 v2) * v2)) = (0 : Int)) → r64 (v4 - ((Int.tdiv v4 v6) * v6)) ∧ (((v4 - ((Int.tdiv v4 v6) * v6)) = (0 : Int)) → R μ (some (kI 0))) ∧ (¬ ((v4 - ((Int.tdiv v4 v6) * v6)) = (0 : Int)) → R μ (some (kI 1)))) ∧ (¬ ((v0 - ((Int.tdiv v0 v2) * v2)) = (0 : Int)) → r64 (v4 - ((Int.tdiv v4 v6) * v6)) ∧ ((¬ (v4 - ((Int.tdiv v4 v6) * v6)) = (0 : Int)) → V_X10_isLess R 3 [(0, kL v6), (2, kL (v4 - ((Int.tdiv v4 v6) * v6))), (4, kL v2), (6, kL (v0 - ((Int.tdiv v0 v2) * v2))), (8, kI (v8 + 1))] μ) ∧ (¬ (¬ (v4 - ((Int.tdiv v4 v6) * v6)) = (0 : Int)) → r64 (v4 - ((Int.tdiv v4 v6) * v6)) ∧ (((v4 - ((Int.tdiv v4 v6) * v6)) = (0 : Int)) → R μ (some (kI 0))) ∧ (¬ ((v4 - ((Int.tdiv v4 v6) * v6)) = (0 : Int)) → R μ (some (kI 1)))))) ∧ (¬ ((Int.tdiv v0 v2) = (Int.tdiv v4 v6)) → r64 (Int.tdiv v0 v2) ∧ r64 (Int.tdiv v4 v6) ∧ (((Int.tdiv v4 v6) ≤ (Int.tdiv v0 v2)) → R μ (some (kI 0))) ∧ (¬ ((Int.tdiv v4 v6) ≤ (Int.tdiv v0 v2)) → R μ (some (kI 1)))))))) : V_X10_isLess R 3 [(0, kL v0), (2, kL v2), (4, kL v4), (6, kL v6), (8, kI v8)] μ := by
  refine vm_step2 mt_X10_isLess ok_X10_isLess [(3, [0, 2, 4, 6, 8])] 1000 ?_
  show (r32 v8 ∧ r32 (1000000 : Int)) ∧ (((1000000 : Int) ≤ v8) → (0 ≤ (0 : Int) ∧ (0 : Int) ≤ 1) ∧ R μ (some (kI 0))) ∧ (¬ ((1000000 : Int) ≤ v8) → (r64 v2 ∧ r64 (0 : Int)) ∧ r32 (lcm3 v2 (0 : Int)) ∧ ((lcm3 v2 (0 : Int) ≤ 0) → (0 ≤ (0 : Int) ∧ (0 : Int) ≤ 1) ∧ R μ (some (kI 0))) ∧ (¬ (lcm3 v2 (0 : Int) ≤ 0) → (r64 v6 ∧ r64 (0 : Int)) ∧ r32 (lcm3 v6 (0 : Int)) ∧ ((lcm3 v6 (0 : Int) ≤ 0) → (0 ≤ (0 : Int) ∧ (0 : Int) ≤ 1) ∧ R μ (some (kI 0))) ∧ (¬ (lcm3 v6 (0 : Int) ≤ 0) → (r64 v0 ∧ r64 v2 ∧ v2 ≠ 0) ∧ (r64 v4 ∧ r64 v6 ∧ v6 ≠ 0) ∧ (r64 (Int.tdiv v0 v2) ∧ r64 (Int.tdiv v4 v6)) ∧ r32 (lcm3 (Int.tdiv v0 v2) (Int.tdiv v4 v6)) ∧ ((lcm3 (Int.tdiv v0 v2) (Int.tdiv v4 v6) = 0) → (r64 (v0 - ((Int.tdiv v0 v2) * v2)) ∧ r64 (0 : Int)) ∧ r32 (lcm3 (v0 - ((Int.tdiv v0 v2) * v2)) (0 : Int)) ∧ ((lcm3 (v0 - ((Int.tdiv v0 v2) * v2)) (0 : Int) = 0) → (r64 (v4 - ((Int.tdiv v4 v6) * v6)) ∧ r64 (0 : Int)) ∧ r32 (lcm3 (v4 - ((Int.tdiv v4 v6) * v6)) (0 : Int)) ∧ ((lcm3 (v4 - ((Int.tdiv v4 v6) * v6)) (0 : Int) = 0) → (0 ≤ (0 : Int) ∧ (0 : Int) ≤ 1) ∧ R μ (some (kI 0))) ∧ (¬ (lcm3 (v4 - ((Int.tdiv v4 v6) * v6)) (0 : Int) = 0) → (0 ≤ (1 : Int) ∧ (1 : Int) ≤ 1) ∧ R μ (some (kI 1)))) ∧ (¬ (lcm3 (v0 - ((Int.tdiv v0 v2) * v2)) (0 : Int) = 0) → (r64 (v4 - ((Int.tdiv v4 v6) * v6)) ∧ r64 (0 : Int)) ∧ r32 (lcm3 (v4 - ((Int.tdiv v4 v6) * v6)) (0 : Int)) ∧ ((¬ lcm3 (v4 - ((Int.tdiv v4 v6) * v6)) (0 : Int) = 0) → V_X10_isLess R 3 [(0, kL v6), (2, kL (v4 - ((Int.tdiv v4 v6) * v6))), (4, kL v2), (6, kL (v0 - ((Int.tdiv v0 v2) * v2))), (8, kI (v8 + 1))] μ) ∧ (¬ (¬ lcm3 (v4 - ((Int.tdiv v4 v6) * v6)) (0 : Int) = 0) → (r64 (v4 - ((Int.tdiv v4 v6) * v6)) ∧ r64 (0 : Int)) ∧ r32 (lcm3 (v4 - ((Int.tdiv v4 v6) * v6)) (0 : Int)) ∧ ((lcm3 (v4 - ((Int.tdiv v4 v6) * v6)) (0 : Int) = 0) → (0 ≤ (0 : Int) ∧ (0 : Int) ≤ 1) ∧ R μ (some (kI 0))) ∧ (¬ (lcm3 (v4 - ((Int.tdiv v4 v6) * v6)) (0 : Int) = 0) → (0 ≤ (1 : Int) ∧ (1 : Int) ≤ 1) ∧ R μ (some (kI 1)))))) ∧ (¬ (lcm3 (Int.tdiv v0 v2) (Int.tdiv v4 v6) = 0) → (r64 (Int.tdiv v0 v2) ∧ r64 (Int.tdiv v4 v6)) ∧ r32 (lcm3 (Int.tdiv v0 v2) (Int.tdiv v4 v6)) ∧ ((0 ≤ lcm3 (Int.tdiv v0 v2) (Int.tdiv v4 v6)) → (0 ≤ (0 : Int) ∧ (0 : Int) ≤ 1) ∧ R μ (some (kI 0))) ∧ (¬ (0 ≤ lcm3 (Int.tdiv v0 v2) (Int.tdiv v4 v6)) → (0 ≤ (1 : Int) ∧ (1 : Int) ≤ 1) ∧ R μ (some (kI 1)))))))
  exact ⟨⟨H.1, by unfold r32; omega⟩, fun hc9 => ⟨⟨by omega, by omega⟩, (H.2.1 hc9)⟩, fun hc9 => ⟨⟨(H.2.2 hc9).1, by unfold r64; omega⟩, lcm3_r _ _, fun hc8 => ⟨⟨by omega, by omega⟩, ((H.2.2 hc9).2.1 (lcm_le.mp hc8))⟩, fun hc8 => ⟨⟨((H.2.2 hc9).2.2 (fun q => hc8 (lcm_le.mpr q))).1, by unfold r64; omega⟩, lcm3_r _ _, fun hc7 => ⟨⟨by omega, by omega⟩, (((H.2.2 hc9).2.2 (fun q => hc8 (lcm_le.mpr q))).2.1 (lcm_le.mp hc7))⟩, fun hc7 => ⟨(((H.2.2 hc9).2.2 (fun q => hc8 (lcm_le.mpr q))).2.2 (fun q => hc7 (lcm_le.mpr q))).1, ⟨(((H.2.2 hc9).2.2 (fun q => hc8 (lcm_le.mpr q))).2.2 (fun q => hc7 (lcm_le.mpr q))).2.1, ⟨⟨(((H.2.2 hc9).2.2 (fun q => hc8 (lcm_le.mpr q))).2.2 (fun q => hc7 (lcm_le.mpr q))).2.2.1, (((H.2.2 hc9).2.2 (fun q => hc8 (lcm_le.mpr q))).2.2 (fun q => hc7 (lcm_le.mpr q))).2.2.2.1⟩, lcm3_r _ _, fun hc6 => ⟨⟨((((H.2.2 hc9).2.2 (fun q => hc8 (lcm_le.mpr q))).2.2 (fun q => hc7 (lcm_le.mpr q))).2.2.2.2.1 (lcm_eq.mp hc6)).1, by unfold r64; omega⟩, lcm3_r _ _, fun hc4 => ⟨⟨(((((H.2.2 hc9).2.2 (fun q => hc8 (lcm_le.mpr q))).2.2 (fun q => hc7 (lcm_le.mpr q))).2.2.2.2.1 (lcm_eq.mp hc6)).2.1 (lcm_eq.mp hc4)).1, by unfold r64; omega⟩, lcm3_r _ _, fun hc1 => ⟨⟨by omega, by omega⟩, ((((((H.2.2 hc9).2.2 (fun q => hc8 (lcm_le.mpr q))).2.2 (fun q => hc7 (lcm_le.mpr q))).2.2.2.2.1 (lcm_eq.mp hc6)).2.1 (lcm_eq.mp hc4)).2.1 (lcm_eq.mp hc1))⟩, fun hc1 => ⟨⟨by omega, by omega⟩, ((((((H.2.2 hc9).2.2 (fun q => hc8 (lcm_le.mpr q))).2.2 (fun q => hc7 (lcm_le.mpr q))).2.2.2.2.1 (lcm_eq.mp hc6)).2.1 (lcm_eq.mp hc4)).2.2 (fun q => hc1 (lcm_eq.mpr q)))⟩⟩, fun hc4 => ⟨⟨(((((H.2.2 hc9).2.2 (fun q => hc8 (lcm_le.mpr q))).2.2 (fun q => hc7 (lcm_le.mpr q))).2.2.2.2.1 (lcm_eq.mp hc6)).2.2 (fun q => hc4 (lcm_eq.mpr q))).1, by unfold r64; omega⟩, lcm3_r _ _, fun hc3 => ((((((H.2.2 hc9).2.2 (fun q => hc8 (lcm_le.mpr q))).2.2 (fun q => hc7 (lcm_le.mpr q))).2.2.2.2.1 (lcm_eq.mp hc6)).2.2 (fun q => hc4 (lcm_eq.mpr q))).2.1 (lcm_ne.mp hc3)), fun hc3 => ⟨⟨((((((H.2.2 hc9).2.2 (fun q => hc8 (lcm_le.mpr q))).2.2 (fun q => hc7 (lcm_le.mpr q))).2.2.2.2.1 (lcm_eq.mp hc6)).2.2 (fun q => hc4 (lcm_eq.mpr q))).2.2 (fun q => hc3 (lcm_ne.mpr q))).1, by unfold r64; omega⟩, lcm3_r _ _, fun hc2 => ⟨⟨by omega, by omega⟩, (((((((H.2.2 hc9).2.2 (fun q => hc8 (lcm_le.mpr q))).2.2 (fun q => hc7 (lcm_le.mpr q))).2.2.2.2.1 (lcm_eq.mp hc6)).2.2 (fun q => hc4 (lcm_eq.mpr q))).2.2 (fun q => hc3 (lcm_ne.mpr q))).2.1 (lcm_eq.mp hc2))⟩, fun hc2 => ⟨⟨by omega, by omega⟩, (((((((H.2.2 hc9).2.2 (fun q => hc8 (lcm_le.mpr q))).2.2 (fun q => hc7 (lcm_le.mpr q))).2.2.2.2.1 (lcm_eq.mp hc6)).2.2 (fun q => hc4 (lcm_eq.mpr q))).2.2 (fun q => hc3 (lcm_ne.mpr q))).2.2 (fun q => hc2 (lcm_eq.mpr q)))⟩⟩⟩⟩, fun hc6 => ⟨⟨((((H.2.2 hc9).2.2 (fun q => hc8 (lcm_le.mpr q))).2.2 (fun q => hc7 (lcm_le.mpr q))).2.2.2.2.2 (fun q => hc6 (lcm_eq.mpr q))).1, ((((H.2.2 hc9).2.2 (fun q => hc8 (lcm_le.mpr q))).2.2 (fun q => hc7 (lcm_le.mpr q))).2.2.2.2.2 (fun q => hc6 (lcm_eq.mpr q))).2.1⟩, lcm3_r _ _, fun hc5 => ⟨⟨by omega, by omega⟩, (((((H.2.2 hc9).2.2 (fun q => hc8 (lcm_le.mpr q))).2.2 (fun q => hc7 (lcm_le.mpr q))).2.2.2.2.2 (fun q => hc6 (lcm_eq.mpr q))).2.2.1 (lcm_ge.mp hc5))⟩, fun hc5 => ⟨⟨by omega, by omega⟩, (((((H.2.2 hc9).2.2 (fun q => hc8 (lcm_le.mpr q))).2.2 (fun q => hc7 (lcm_le.mpr q))).2.2.2.2.2 (fun q => hc6 (lcm_eq.mpr q))).2.2.2 (fun q => hc5 (lcm_ge.mpr q)))⟩⟩⟩⟩⟩⟩⟩⟩
theorem less_step {μ : Mem} {R : Mem → Option AV → Prop} {a b c d i : Int} (ha : 0 ≤ a ∧ a ≤ 9223372036854775807) (hb : 1 ≤ b ∧ b ≤ 9223372036854775807) (hc : 0 ≤ c ∧ c ≤ 9223372036854775807) (hd : 1 ≤ d ∧ d ≤ 9223372036854775807) (hi : 0 ≤ i ∧ i < 1000000) (hR : R μ (some (kI (lessI a b c d)))) (H : a % b ≠ 0 → c % d ≠ 0 → a / b = c / d → V_X10_isLess R 3 [(0, kL d), (2, kL (c % d)), (4, kL b), (6, kL (a % b)), (8, kI (i + 1))] μ) : V_X10_isLess R 3 [(0, kL a), (2, kL b), (4, kL c), (6, kL d), (8, kI i)] μ := by
  have t1 : Int.tdiv a b = a / b := Int.tdiv_eq_ediv_of_nonneg ha.1
  have t2 : Int.tdiv c d = c / d := Int.tdiv_eq_ediv_of_nonneg hc.1
  have g1 := Int.emod_add_mul_ediv a b
  have g3 := Int.emod_add_mul_ediv c d
  have s1 : a - a / b * b = a % b := by rw [Int.mul_comm]; omega
  have s2 : c - c / d * d = c % d := by rw [Int.mul_comm]; omega
  have m1 : 0 ≤ a % b ∧ a % b < b := ⟨Int.emod_nonneg _ (by omega), Int.emod_lt_of_pos _ (by omega)⟩
  have m2 : 0 ≤ c % d ∧ c % d < d := ⟨Int.emod_nonneg _ (by omega), Int.emod_lt_of_pos _ (by omega)⟩
  have q1 : 0 ≤ a / b ∧ a / b ≤ a := ⟨Int.ediv_nonneg ha.1 (by omega), Int.ediv_le_self _ ha.1⟩
  have q2 : 0 ≤ c / d ∧ c / d ≤ c := ⟨Int.ediv_nonneg hc.1 (by omega), Int.ediv_le_self _ hc.1⟩
  refine vc_X10_isLess_3 ?_
  rw [t1, t2, s1, s2]
  refine ⟨rr (by omega), fun q => absurd q (by omega), fun _ => ⟨rl (by omega), fun q => absurd q (by omega), fun _ => ⟨rl (by omega), fun q => absurd q (by omega), fun _ => ⟨⟨rl (by omega), rl (by omega), by omega⟩, ⟨rl (by omega), rl (by omega), by omega⟩, rl (by omega), rl (by omega), fun he => ?_, fun hn => ⟨rl (by omega), rl (by omega), fun hle => ?_, fun hlt => ?_⟩⟩⟩⟩⟩
  · refine ⟨rl (by omega), fun hr => ⟨rl (by omega), fun hr2 => ?_, fun hr2 => ?_⟩, fun hr => ⟨rl (by omega), fun hr2 => H hr hr2 he, fun hr2 => ⟨rl (by omega), fun hr3 => ?_, fun hr3 => absurd hr3 hr2⟩⟩⟩
    · unfold lessI at hR
      rw [if_neg (by rw [eq_q he, hr, hr2]; omega)] at hR
      exact hR
    · unfold lessI at hR
      rw [if_pos (by rw [eq_q he, hr, Int.zero_mul]; exact Int.mul_pos (by omega) (by omega))] at hR
      exact hR
    · unfold lessI at hR
      rw [if_neg (by rw [eq_q he, hr3, Int.zero_mul]; have := Int.mul_nonneg m1.1 (show 0 ≤ d by omega); omega)] at hR
      exact hR
  · unfold lessI at hR
    have := lt_q (a := c) (b := d) (c := a) (d := b) (by omega) (by omega) (by omega)
    rw [if_neg (by omega)] at hR
    exact hR
  · unfold lessI at hR
    rw [if_pos (lt_q (by omega) (by omega) (by omega))] at hR
    exact hR
theorem body_X10_isLess {a b c d : Int} {μ : Mem} {R : Mem → Option AV → Prop} (h : P_X10_isLess a b c d μ) (hR : R μ (some (kI (F_X10_isLess a b c d μ)))) : V_X10_isLess R 0 [(0, kL a), (2, kL b), (4, kL c), (6, kL d)] μ := by
  obtain ⟨ha, hb, hc, hd⟩ := h
  refine vc_X10_isLess_0 ?_
  have key : ∀ (k : Nat) (a b c d i : Int), k ≤ 70 → (0 ≤ a ∧ a ≤ 9223372036854775807) → (1 ≤ b ∧ b ≤ 9223372036854775807) → (0 ≤ c ∧ c ≤ 9223372036854775807) → (1 ≤ d ∧ d ≤ 9223372036854775807) → b < 2 ^ k → 0 ≤ i → i + 2 * k + 2 ≤ 1000000 → R μ (some (kI (lessI a b c d))) → V_X10_isLess R 3 [(0, kL a), (2, kL b), (4, kL c), (6, kL d), (8, kI i)] μ := by
    intro k
    induction k with
    | zero =>
      intro a b c d i _ ha hb hc hd hk
      have : (2 : Int) ^ 0 = 1 := rfl
      omega
    | succ k ih =>
      intro a b c d i hk7 ha hb hc hd hk i0 i1 hR
      have m1 : 0 ≤ a % b ∧ a % b < b := ⟨Int.emod_nonneg _ (by omega), Int.emod_lt_of_pos _ (by omega)⟩
      have m2 : 0 ≤ c % d ∧ c % d < d := ⟨Int.emod_nonneg _ (by omega), Int.emod_lt_of_pos _ (by omega)⟩
      refine less_step ha hb hc hd ⟨by omega, by omega⟩ hR (fun h1 h2 he => ?_)
      rw [less_turn (by omega) (by omega) he] at hR
      refine less_step (by omega) (by omega) (by omega) (by omega) ⟨by omega, by omega⟩ hR (fun h3 h4 he2 => ?_)
      rw [less_turn (by omega) (by omega) he2] at hR
      have hk2 : (2 : Int) ^ (k + 1) = 2 * 2 ^ k := by rw [Int.pow_succ]; omega
      have m3 : 0 ≤ b % (a % b) ∧ b % (a % b) < a % b := ⟨Int.emod_nonneg _ h1, Int.emod_lt_of_pos _ (by omega)⟩
      have m4 : 0 ≤ d % (c % d) ∧ d % (c % d) < c % d := ⟨Int.emod_nonneg _ h2, Int.emod_lt_of_pos _ (by omega)⟩
      have hh := half_mod (b := b) (r := a % b) (by omega) m1.2
      exact ih (a % b) (b % (a % b)) (c % d) (d % (c % d)) (i + 1 + 1) (by omega) (by omega) (by omega) (by omega) (by omega) (by omega) (by omega) (by omega) hR
  exact key 63 a b c d 0 (by omega) ha hb hc hd (by have : (2 : Int) ^ 63 = 9223372036854775808 := rfl; omega) (by omega) (by omega) hR
theorem ct_X10_isLess : Ct mX10_isLess 0 0 0 0 (nrmS S_X10_isLess) := by
  refine ct_vm (own := RX10) (by decide +kernel) rfl ?_ ?_
  · intro as μ Q hS
    unfold S_X10_isLess at hS
    split at hS
    · exact Nat.le_of_ble_eq_true rfl
    · exact hS.elim
  · intro as μ R hS
    unfold S_X10_isLess at hS
    split at hS
    · exact body_X10_isLess hS.1 hS.2
    · exact hS.elim
