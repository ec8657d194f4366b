def densityT (a k : Int) (v : TV) : Int := if (v 1 0 = v 0 0 - 1 ∧ 0 ≤ a ∧ a < v 0 0) ∧ 0 ≤ k ∧ k ≤ 1 then (if k = 0 then (weV v a).1 else (weV v a).2) else -1
def P_X10_density (o n a k : Int) (μ : Mem) : Prop := o = 0 ∧ (∃ c, CI c μ) ∧ r32 n ∧ r32 a ∧ r32 k
def Q_X10_density (_ n a k : Int) (μ μ' : Mem) (r : Int) : Prop := Ask μ μ' ∧ r = onT (wvC μ 1) n (-1) (densityT a k)
def S_X10_density : S0t := fun as μ Q => match as with
  | [(2, x0), (0, x1), (0, x2), (0, x3)] => P_X10_density x0 x1 x2 x3 μ ∧ ∀ (μ' : Mem) (r : Int), Q_X10_density x0 x1 x2 x3 μ μ' r → Q μ' (some (kL r))
  | _ => False
theorem mono_X10_density : Mono S_X10_density := by
  intro as μ Q Q' h hS
  unfold S_X10_density at hS ⊢
  split at hS
  · exact ⟨hS.1, fun μ' r q => h _ _ (hS.2 _ _ q)⟩
  · exact hS.elim
def iX10_density : Inf := (kX10_density, fTX10, pTX10, cTX10, lTX10, sTX10, [(110, 0, 1, 9, S_X9_townAt), (268, 0, 0, 7, S_X7_isTree), (137, 0, 1, 7, S_X7_has), (274, 0, 1, 8, S_X8_grow), (277, 0, 2, 8, S_X8_weighEnd)])
theorem ok_X10_density : infOK iX10_density mX10_density RX10 3 72 := ⟨kkX10_density, fTX10_ok, pTX10_ok _, cTX10_ok, lTX10_ok, sTX10_ok, c_cons ⟨mX9_townAt, 0, 0, ct_X9_townAt, mmX9_townAt, vvX9_townAt, lkX10_110, ⟨by decide, by decide⟩, ⟨_, _, rfl⟩, by decide, mono_X9_townAt⟩ (c_cons ⟨mX7_isTree, 0, 0, ct_X7_isTree, mmX7_isTree, vvX7_isTree, lkX10_268, ⟨by decide, by decide⟩, ⟨_, _, rfl⟩, by decide, mono_X7_isTree⟩ (c_cons ⟨mX7_has, 0, 0, ct_X7_has, mmX7_has, vvX7_has, lkX10_137, ⟨by decide, by decide⟩, ⟨_, _, rfl⟩, by decide, mono_X7_has⟩ (c_cons ⟨mX8_grow, 2, 44, ct_X8_grow, mmX8_grow, vvX8_grow, lkX10_274, ⟨by decide, by decide⟩, ⟨_, _, rfl⟩, by decide, mono_X8_grow⟩ (c_cons ⟨mX8_weighEnd, 2, 45, ct_X8_weighEnd, mmX8_weighEnd, vvX8_weighEnd, lkX10_277, ⟨by decide, by decide⟩, ⟨_, _, rfl⟩, by decide, mono_X8_weighEnd⟩ (c_nil)))))⟩
theorem mt_X10_density : mtOK [] RX10 3 72 := mt_nil
abbrev V_X10_density (R : Mem → Option AV → Prop) (pc : Nat) (lc : List (Nat × AV)) (μ : Mem) : Prop := VM mX10_density RX10 3 72 R pc lc [] μ
set_option maxRecDepth 20000 in
theorem vc_X10_density_0 {R : Mem → Option AV → Prop} {n a k : Int} {μ : Mem} (H : P_X9_townAt 1 n μ ∧ (∀ (rv2 : Int), Q_X9_townAt 1 n μ rv2 → (rv2 < 0 → R μ (some (kL (-1)))) ∧ (¬ rv2 < 0 → P_X7_isTree rv2 μ ∧ r32 (F_X7_isTree rv2 μ) ∧ (((F_X7_isTree rv2 μ) = 0) → R μ (some (kL (-1)))) ∧ (¬ ((F_X7_isTree rv2 μ) = 0) → P_X7_has rv2 a μ ∧ r32 (F_X7_has rv2 a μ) ∧ (((F_X7_has rv2 a μ) = 0) → R μ (some (kL (-1)))) ∧ (¬ ((F_X7_has rv2 a μ) = 0) → r32 k ∧ ((k < 0) → R μ (some (kL (-1)))) ∧ (¬ (k < 0) → r32 k ∧ ((k ≤ (1 : Int)) → P_X8_grow 195 rv2 μ ∧ (∀ (μ4 : Mem), Q_X8_grow 195 rv2 μ μ4 → V_X10_density R 54 [(0, kR 0), (2, kI a), (3, kI k), (4, kR rv2)] μ4)) ∧ (¬ (k ≤ (1 : Int)) → R μ (some (kL (-1)))))))))) : V_X10_density R 0 [(0, kR 0), (1, kI n), (2, kI a), (3, kI k)] μ := by
  refine vm_step2 mt_X10_density ok_X10_density [(54, [0, 2, 3, 4]), (64, [0, 3])] 1000 ?_
  show isC 0 10 ∧ isC 1 9 ∧ P_X9_townAt 1 n μ ∧ (∀ (rv2 : Int), Q_X9_townAt 1 n μ rv2 → (rv2 < 0 → R μ (some (kL (-1)))) ∧ (¬ rv2 < 0 → isC rv2 7 ∧ P_X7_isTree rv2 μ ∧ r32 (F_X7_isTree rv2 μ) ∧ (((F_X7_isTree rv2 μ) = 0) → R μ (some (kL (-1)))) ∧ (¬ ((F_X7_isTree rv2 μ) = 0) → isC rv2 7 ∧ P_X7_has rv2 a μ ∧ r32 (F_X7_has rv2 a μ) ∧ (((F_X7_has rv2 a μ) = 0) → R μ (some (kL (-1)))) ∧ (¬ ((F_X7_has rv2 a μ) = 0) → r32 k ∧ ((k < 0) → R μ (some (kL (-1)))) ∧ (¬ (k < 0) → (r32 k ∧ r32 (1 : Int)) ∧ ((k ≤ (1 : Int)) → isC 0 10 ∧ isC 195 8 ∧ P_X8_grow 195 rv2 μ ∧ (∀ (μ4 : Mem), Q_X8_grow 195 rv2 μ μ4 → V_X10_density R 54 [(0, kR 0), (2, kI a), (3, kI k), (4, kR rv2)] μ4)) ∧ (¬ (k ≤ (1 : Int)) → R μ (some (kL (-1)))))))))
  exact ⟨c_0, ⟨c_1, H.1, fun rv2 hq3 => ⟨fun hz11 => ((H.2 rv2 hq3).1 hz11), fun hz11 => have h_rv2 := hq3.2.2 hz11; ⟨isT_C h_rv2, ((H.2 rv2 hq3).2 hz11).1, ⟨((H.2 rv2 hq3).2 hz11).2.1, fun hc10 => (((H.2 rv2 hq3).2 hz11).2.2.1 hc10), fun hc10 => ⟨isT_C h_rv2, (((H.2 rv2 hq3).2 hz11).2.2.2 hc10).1, ⟨(((H.2 rv2 hq3).2 hz11).2.2.2 hc10).2.1, fun hc9 => ((((H.2 rv2 hq3).2 hz11).2.2.2 hc10).2.2.1 hc9), fun hc9 => ⟨((((H.2 rv2 hq3).2 hz11).2.2.2 hc10).2.2.2 hc9).1, fun hc8 => (((((H.2 rv2 hq3).2 hz11).2.2.2 hc10).2.2.2 hc9).2.1 hc8), fun hc8 => ⟨⟨(((((H.2 rv2 hq3).2 hz11).2.2.2 hc10).2.2.2 hc9).2.2 hc8).1, by unfold r32; omega⟩, fun hc7 => ⟨c_0, ⟨c_195, ((((((H.2 rv2 hq3).2 hz11).2.2.2 hc10).2.2.2 hc9).2.2 hc8).2.1 hc7).1, fun μ4 hq6 => (((((((H.2 rv2 hq3).2 hz11).2.2.2 hc10).2.2.2 hc9).2.2 hc8).2.1 hc7).2 μ4 hq6)⟩⟩, fun hc7 => ((((((H.2 rv2 hq3).2 hz11).2.2.2 hc10).2.2.2 hc9).2.2 hc8).2.2 hc7)⟩⟩⟩⟩⟩⟩⟩⟩⟩
set_option maxRecDepth 20000 in
theorem vc_X10_density_54 {R : Mem → Option AV → Prop} {a k t : Int} {μ : Mem} (ht : isT t) (H : P_X8_weighEnd 195 t a μ ∧ (∀ (μ12 : Mem), Q_X8_weighEnd 195 t a μ μ12 → V_X10_density R 64 [(0, kR 0), (3, kI k)] μ12)) : V_X10_density R 54 [(0, kR 0), (2, kI a), (3, kI k), (4, kR t)] μ := by
  refine vm_step2 mt_X10_density ok_X10_density [(54, [0, 2, 3, 4]), (64, [0, 3])] 1000 ?_
  show isC 0 10 ∧ isC 195 8 ∧ P_X8_weighEnd 195 t a μ ∧ (∀ (μ12 : Mem), Q_X8_weighEnd 195 t a μ μ12 → V_X10_density R 64 [(0, kR 0), (3, kI k)] μ12)
  exact ⟨c_0, ⟨c_195, H.1, fun μ12 hq14 => (H.2 μ12 hq14)⟩⟩
set_option maxRecDepth 20000 in
theorem vc_X10_density_64 {R : Mem → Option AV → Prop} {k : Int} {μ : Mem} (H : r32 k ∧ ((¬ k = 0) → R μ (some (kL (μ 195 3)))) ∧ (¬ (¬ k = 0) → R μ (some (kL (μ 195 2))))) : V_X10_density R 64 [(0, kR 0), (3, kI k)] μ := by
  refine vm_step2 mt_X10_density ok_X10_density [(54, [0, 2, 3, 4]), (64, [0, 3])] 1000 ?_
  show r32 k ∧ ((¬ k = 0) → isC 0 10 ∧ isC 195 8 ∧ R μ (some (kL (μ 195 3)))) ∧ (¬ (¬ k = 0) → isC 0 10 ∧ isC 195 8 ∧ R μ (some (kL (μ 195 2))))
  exact ⟨H.1, fun hc15 => ⟨c_0, ⟨c_195, (H.2.1 hc15)⟩⟩, fun hc15 => ⟨c_0, ⟨c_195, (H.2.2 hc15)⟩⟩⟩
theorem body_X10_density {o n a k : Int} {μ : Mem} {R : Mem → Option AV → Prop} (h : P_X10_density o n a k μ) (hR : ∀ (μ' : Mem) (r : Int), Q_X10_density o n a k μ μ' r → R μ' (some (kL r))) : V_X10_density R 0 [(0, kR o), (1, kI n), (2, kI a), (3, kI k)] μ := by
  obtain ⟨rfl, ⟨c, hc⟩, r_n, r_a, r_k⟩ := h
  obtain ⟨pt, ht⟩ := ask_town hc r_n
  have fin : ∀ (m : Mem) (x : Int), Ask μ m → x = onT (wvC μ 1) n (-1) (densityT a k) → R m (some (kL x)) := fun m x ha hx => hR m x ⟨ha, hx⟩
  refine vc_X10_density_0 ⟨pt, fun t q => ?_⟩
  rcases ht t q with ⟨hneg, hno⟩ | ⟨hpos, hr, hl, hm, ht4, hy⟩
  · exact ⟨fun _ => fin μ _ (Ask_0 μ) (hno _ _).symm, fun q => absurd hneg q⟩
  · have hT := hr.1.1
    have ok := hr.1.2
    have hj := hr.2.2.1
    have hp : 2 ≤ μ t 1 ∧ μ t 1 ≤ 8 := ok.1
    have hpe : tv μ t 0 0 = μ t 1 := rfl
    have hle : tv μ t 1 0 = μ t 2 := rfl
    have a0 := Ask_0 μ
    rw [hy] at fin
    unfold densityT at fin
    refine ⟨fun q => absurd q hpos, fun _ => ?_⟩
    rw [hpe, hle] at fin
    unfold F_X7_isTree F_X7_has
    by_cases ct : μ t 2 = μ t 1 - 1
    · rw [if_pos ct]
      refine ⟨⟨hT, hp, rr (by omega)⟩, rr (by omega), fun q => absurd q (by omega), fun _ => ⟨⟨hT, r_a, hp⟩, ?_⟩⟩
      by_cases ca : 0 ≤ a ∧ a < μ t 1
      · rw [if_pos ca]
        refine ⟨rr (by omega), fun q => absurd q (by omega), fun _ => ⟨r_k, fun c1 => fin μ _ a0 ?_, fun c1 => ⟨r_k, fun c2 => ⟨⟨rfl, hr.1, hr.2.1, hj⟩, fun m4 q4 => vc_X10_density_54 hT ?_⟩, fun c2 => fin μ _ a0 ?_⟩⟩⟩
        · rw [if_neg (by omega)]
        · obtain ⟨tr, hf⟩ := q4
          have frt : ∀ z : Int, t ≤ z → z ≤ t + 9 → m4 z = μ z := fun z z0 z1 => hf z (by omega) (by omega)
          have hr4 := TR_frame hr frt
          have etv := tv_frame frt
          refine ⟨⟨rfl, hr4.1, hr4.2.2.1, by rw [etv]; exact tr, by rw [etv, hpe]; exact ca⟩, fun m12 q12 => vc_X10_density_64 ?_⟩
          obtain ⟨⟨w1, w2⟩, wj, wf⟩ := q12
          rw [etv] at w1 w2
          have hA : Ask μ m12 := Ask_far fun z hz => by rw [wf z (by omega), hf z (by omega) (by omega)]
          refine ⟨r_k, fun c3 => fin m12 _ hA ?_, fun c3 => fin m12 _ hA ?_⟩
          · rw [if_pos (by omega), if_neg c3]; exact w2
          · rw [if_pos (by omega), if_pos (Classical.byContradiction c3)]; exact w1
        · rw [if_neg (by omega)]
      · rw [if_neg ca]
        exact ⟨rr (by omega), fun _ => fin μ _ a0 (if_neg (fun q => ca q.1.2)).symm, fun q => absurd rfl q⟩
    · rw [if_neg ct]
      exact ⟨⟨hT, hp, rr (by omega)⟩, rr (by omega), fun _ => fin μ _ a0 (if_neg (fun q => ct q.1.1)).symm, fun q => absurd rfl q⟩
theorem ct_X10_density : Ct mX10_density 3 72 0 0 (nrmS S_X10_density) := by
  refine ct_vm (own := RX10) (by decide +kernel) rfl ?_ ?_
  · intro as μ Q hS
    unfold S_X10_density at hS
    split at hS
    · exact Nat.le_of_ble_eq_true rfl
    · exact hS.elim
  · intro as μ R hS
    unfold S_X10_density at hS
    split at hS
    · exact body_X10_density hS.1 hS.2
    · exact hS.elim
def roundT (a : Int) (v : TV) : Int := if v 1 0 = v 0 0 - 1 ∧ 0 ≤ a ∧ a < v 0 0 then 2 * wayV v 0 a + twN v 8 a else -1
def P_X10_round (o n a : Int) (μ : Mem) : Prop := o = 0 ∧ (∃ c, CI c μ) ∧ r32 n ∧ r32 a
def Q_X10_round (_ n a : Int) (μ μ' : Mem) (r : Int) : Prop := Ask μ μ' ∧ r = onT (wvC μ 1) n (-1) (roundT a)
def S_X10_round : S0t := fun as μ Q => match as with
  | [(2, x0), (0, x1), (0, x2)] => P_X10_round x0 x1 x2 μ ∧ ∀ (μ' : Mem) (r : Int), Q_X10_round x0 x1 x2 μ μ' r → Q μ' (some (kI r))
  | _ => False
theorem mono_X10_round : Mono S_X10_round := by
  intro as μ Q Q' h hS
  unfold S_X10_round at hS ⊢
  split at hS
  · exact ⟨hS.1, fun μ' r q => h _ _ (hS.2 _ _ q)⟩
  · exact hS.elim
def iX10_round : Inf := (kX10_round, fTX10, pTX10, cTX10, lTX10, sTX10, [(110, 0, 1, 9, S_X9_townAt), (268, 0, 0, 7, S_X7_isTree), (137, 0, 1, 7, S_X7_has), (274, 0, 1, 8, S_X8_grow), (286, 0, 2, 8, S_X8_twiceRound)])
theorem ok_X10_round : infOK iX10_round mX10_round RX10 3 69 := ⟨kkX10_round, fTX10_ok, pTX10_ok _, cTX10_ok, lTX10_ok, sTX10_ok, c_cons ⟨mX9_townAt, 0, 0, ct_X9_townAt, mmX9_townAt, vvX9_townAt, lkX10_110, ⟨by decide, by decide⟩, ⟨_, _, rfl⟩, by decide, mono_X9_townAt⟩ (c_cons ⟨mX7_isTree, 0, 0, ct_X7_isTree, mmX7_isTree, vvX7_isTree, lkX10_268, ⟨by decide, by decide⟩, ⟨_, _, rfl⟩, by decide, mono_X7_isTree⟩ (c_cons ⟨mX7_has, 0, 0, ct_X7_has, mmX7_has, vvX7_has, lkX10_137, ⟨by decide, by decide⟩, ⟨_, _, rfl⟩, by decide, mono_X7_has⟩ (c_cons ⟨mX8_grow, 2, 44, ct_X8_grow, mmX8_grow, vvX8_grow, lkX10_274, ⟨by decide, by decide⟩, ⟨_, _, rfl⟩, by decide, mono_X8_grow⟩ (c_cons ⟨mX8_twiceRound, 1, 24, ct_X8_twiceRound, mmX8_twiceRound, vvX8_twiceRound, lkX10_286, ⟨by decide, by decide⟩, ⟨_, _, rfl⟩, by decide, mono_X8_twiceRound⟩ (c_nil)))))⟩
theorem mt_X10_round : mtOK [] RX10 3 69 := mt_nil
abbrev V_X10_round (R : Mem → Option AV → Prop) (pc : Nat) (lc : List (Nat × AV)) (μ : Mem) : Prop := VM mX10_round RX10 3 69 R pc lc [] μ
set_option maxRecDepth 20000 in
theorem vc_X10_round_0 {R : Mem → Option AV → Prop} {n a : Int} {μ : Mem} (H : P_X9_townAt 1 n μ ∧ (∀ (rv2 : Int), Q_X9_townAt 1 n μ rv2 → (rv2 < 0 → R μ (some (kI (-1)))) ∧ (¬ rv2 < 0 → P_X7_isTree rv2 μ ∧ r32 (F_X7_isTree rv2 μ) ∧ (((F_X7_isTree rv2 μ) = 0) → R μ (some (kI (-1)))) ∧ (¬ ((F_X7_isTree rv2 μ) = 0) → P_X7_has rv2 a μ ∧ r32 (F_X7_has rv2 a μ) ∧ ((¬ (F_X7_has rv2 a μ) = 0) → P_X8_grow 195 rv2 μ ∧ (∀ (μ4 : Mem), Q_X8_grow 195 rv2 μ μ4 → V_X10_round R 38 [(0, kR 0), (2, kI a), (3, kR rv2)] μ4)) ∧ (¬ (¬ (F_X7_has rv2 a μ) = 0) → R μ (some (kI (-1)))))))) : V_X10_round R 0 [(0, kR 0), (1, kI n), (2, kI a)] μ := by
  refine vm_step2 mt_X10_round ok_X10_round [(38, [0, 2, 3])] 1000 ?_
  show isC 0 10 ∧ isC 1 9 ∧ P_X9_townAt 1 n μ ∧ (∀ (rv2 : Int), Q_X9_townAt 1 n μ rv2 → (rv2 < 0 → R μ (some (kI (-1)))) ∧ (¬ rv2 < 0 → isC rv2 7 ∧ P_X7_isTree rv2 μ ∧ r32 (F_X7_isTree rv2 μ) ∧ (((F_X7_isTree rv2 μ) = 0) → R μ (some (kI (-1)))) ∧ (¬ ((F_X7_isTree rv2 μ) = 0) → isC rv2 7 ∧ P_X7_has rv2 a μ ∧ r32 (F_X7_has rv2 a μ) ∧ ((¬ (F_X7_has rv2 a μ) = 0) → isC 0 10 ∧ isC 195 8 ∧ P_X8_grow 195 rv2 μ ∧ (∀ (μ4 : Mem), Q_X8_grow 195 rv2 μ μ4 → V_X10_round R 38 [(0, kR 0), (2, kI a), (3, kR rv2)] μ4)) ∧ (¬ (¬ (F_X7_has rv2 a μ) = 0) → R μ (some (kI (-1)))))))
  exact ⟨c_0, ⟨c_1, H.1, fun rv2 hq3 => ⟨fun hz9 => ((H.2 rv2 hq3).1 hz9), fun hz9 => have h_rv2 := hq3.2.2 hz9; ⟨isT_C h_rv2, ((H.2 rv2 hq3).2 hz9).1, ⟨((H.2 rv2 hq3).2 hz9).2.1, fun hc8 => (((H.2 rv2 hq3).2 hz9).2.2.1 hc8), fun hc8 => ⟨isT_C h_rv2, (((H.2 rv2 hq3).2 hz9).2.2.2 hc8).1, ⟨(((H.2 rv2 hq3).2 hz9).2.2.2 hc8).2.1, fun hc7 => ⟨c_0, ⟨c_195, ((((H.2 rv2 hq3).2 hz9).2.2.2 hc8).2.2.1 hc7).1, fun μ4 hq6 => (((((H.2 rv2 hq3).2 hz9).2.2.2 hc8).2.2.1 hc7).2 μ4 hq6)⟩⟩, fun hc7 => ((((H.2 rv2 hq3).2 hz9).2.2.2 hc8).2.2.2 hc7)⟩⟩⟩⟩⟩⟩⟩
set_option maxRecDepth 20000 in
theorem vc_X10_round_38 {R : Mem → Option AV → Prop} {a t : Int} {μ : Mem} (ht : isT t) (H : P_X8_twiceRound 195 t a μ ∧ R μ (some (kI (F_X8_twiceRound 195 t a μ)))) : V_X10_round R 38 [(0, kR 0), (2, kI a), (3, kR t)] μ := by
  refine vm_step2 mt_X10_round ok_X10_round [(38, [0, 2, 3])] 1000 ?_
  show isC 0 10 ∧ isC 195 8 ∧ P_X8_twiceRound 195 t a μ ∧ R μ (some (kI (F_X8_twiceRound 195 t a μ)))
  exact ⟨c_0, ⟨c_195, H.1, H.2⟩⟩
theorem body_X10_round {o n a : Int} {μ : Mem} {R : Mem → Option AV → Prop} (h : P_X10_round o n a μ) (hR : ∀ (μ' : Mem) (r : Int), Q_X10_round o n a μ μ' r → R μ' (some (kI r))) : V_X10_round R 0 [(0, kR o), (1, kI n), (2, kI a)] μ := by
  obtain ⟨rfl, ⟨c, hc⟩, r_n, r_a⟩ := h
  obtain ⟨pt, ht⟩ := ask_town hc r_n
  have fin : ∀ (m : Mem) (x : Int), Ask μ m → x = onT (wvC μ 1) n (-1) (roundT a) → R m (some (kI x)) := fun m x ha hx => hR m x ⟨ha, hx⟩
  refine vc_X10_round_0 ⟨pt, fun t q => ?_⟩
  rcases ht t q with ⟨hneg, hno⟩ | ⟨hpos, hr, hl, hm, ht4, hy⟩
  · exact ⟨fun _ => fin μ _ (Ask_0 μ) (hno _ _).symm, fun q => absurd hneg q⟩
  · have hT := hr.1.1
    have ok := hr.1.2
    have hj := hr.2.2.1
    have hp : 2 ≤ μ t 1 ∧ μ t 1 ≤ 8 := ok.1
    have hpe : tv μ t 0 0 = μ t 1 := rfl
    have hle : tv μ t 1 0 = μ t 2 := rfl
    have a0 := Ask_0 μ
    rw [hy] at fin
    unfold roundT at fin
    refine ⟨fun q => absurd q hpos, fun _ => ?_⟩
    rw [hpe, hle] at fin
    unfold F_X7_isTree F_X7_has
    by_cases ct : μ t 2 = μ t 1 - 1
    · rw [if_pos ct]
      refine ⟨⟨hT, hp, rr (by omega)⟩, rr (by omega), fun q => absurd q (by omega), fun _ => ⟨⟨hT, r_a, hp⟩, ?_⟩⟩
      by_cases ca : 0 ≤ a ∧ a < μ t 1
      · rw [if_pos ca]
        refine ⟨rr (by omega), fun _ => ⟨⟨rfl, hr.1, hr.2.1, hj⟩, fun m4 q4 => vc_X10_round_38 hT ?_⟩, fun q => absurd (show ¬ (1 : Int) = 0 by omega) q⟩
        obtain ⟨tr, hf⟩ := q4
        have frt : ∀ z : Int, t ≤ z → z ≤ t + 9 → m4 z = μ z := fun z z0 z1 => hf z (by omega) (by omega)
        have hr4 := TR_frame hr frt
        have etv := tv_frame frt
        have hA : Ask μ m4 := Ask_far fun z hz => hf z (by omega) (by omega)
        refine ⟨⟨rfl, hr4.1, hr4.2.1, hr4.2.2.1, by rw [etv]; exact tr, by rw [etv, hpe]; exact ca⟩, fin m4 _ hA ?_⟩
        rw [if_pos ⟨ct, ca⟩]
        unfold F_X8_twiceRound
        rw [etv]
      · rw [if_neg ca]
        exact ⟨rr (by omega), fun q => absurd rfl q, fun _ => fin μ _ a0 (if_neg (fun q => ca q.2)).symm⟩
    · rw [if_neg ct]
      exact ⟨⟨hT, hp, rr (by omega)⟩, rr (by omega), fun _ => fin μ _ a0 (if_neg (fun q => ct q.1)).symm, fun q => absurd rfl q⟩
theorem ct_X10_round : Ct mX10_round 3 69 0 0 (nrmS S_X10_round) := by
  refine ct_vm (own := RX10) (by decide +kernel) rfl ?_ ?_
  · intro as μ Q hS
    unfold S_X10_round at hS
    split at hS
    · exact Nat.le_of_ble_eq_true rfl
    · exact hS.elim
  · intro as μ R hS
    unfold S_X10_round at hS
    split at hS
    · exact body_X10_round hS.1 hS.2
    · exact hS.elim
def postmanT (k : Int) (v : TV) : Int := if k = 0 then allMinV v + cpV (wayV v) (v 0 0) (oddV v) else if 10 ≤ k ∧ k < 10 + v 0 0 then (if hasB (oddV v) (k - 10) = true then felN (wayV v) (v 0 0) 8 (oddV v) (k - 10) else -1) else -1
def P_X10_postman (o n k : Int) (μ : Mem) : Prop := o = 0 ∧ (∃ c, CI c μ) ∧ r32 n ∧ r32 k
def Q_X10_postman (_ n k : Int) (μ μ' : Mem) (r : Int) : Prop := Ask μ μ' ∧ r = onT (wvC μ 1) n (-1) (postmanT k)
def S_X10_postman : S0t := fun as μ Q => match as with
  | [(2, x0), (0, x1), (0, x2)] => P_X10_postman x0 x1 x2 μ ∧ ∀ (μ' : Mem) (r : Int), Q_X10_postman x0 x1 x2 μ μ' r → Q μ' (some (kI r))
  | _ => False
theorem mono_X10_postman : Mono S_X10_postman := by
  intro as μ Q Q' h hS
  unfold S_X10_postman at hS ⊢
  split at hS
  · exact ⟨hS.1, fun μ' r q => h _ _ (hS.2 _ _ q)⟩
  · exact hS.elim
def iX10_postman : Inf := (kX10_postman, fTX10, pTX10, cTX10, lTX10, sTX10, [(110, 0, 1, 9, S_X9_townAt), (290, 0, 1, 4, S_X4_couple), (283, 0, 0, 7, S_X7_allMinutes)])
theorem ok_X10_postman : infOK iX10_postman mX10_postman RX10 5 117 := ⟨kkX10_postman, fTX10_ok, pTX10_ok _, cTX10_ok, lTX10_ok, sTX10_ok, c_cons ⟨mX9_townAt, 0, 0, ct_X9_townAt, mmX9_townAt, vvX9_townAt, lkX10_110, ⟨by decide, by decide⟩, ⟨_, _, rfl⟩, by decide, mono_X9_townAt⟩ (c_cons ⟨mX4_couple, 4, 91, ct_X4_couple, mmX4_couple, vvX4_couple, lkX10_290, ⟨by decide, by decide⟩, ⟨_, _, rfl⟩, by decide, mono_X4_couple⟩ (c_cons ⟨mX7_allMinutes, 0, 0, ct_X7_allMinutes, mmX7_allMinutes, vvX7_allMinutes, lkX10_283, ⟨by decide, by decide⟩, ⟨_, _, rfl⟩, by decide, mono_X7_allMinutes⟩ (c_nil)))⟩
theorem mt_X10_postman : mtOK [] RX10 5 117 := mt_nil
abbrev V_X10_postman (R : Mem → Option AV → Prop) (pc : Nat) (lc : List (Nat × AV)) (μ : Mem) : Prop := VM mX10_postman RX10 5 117 R pc lc [] μ
set_option maxRecDepth 20000 in
theorem vc_X10_postman_0 {R : Mem → Option AV → Prop} {n k : Int} {μ : Mem} (H : P_X9_townAt 1 n μ ∧ (∀ (rv2 : Int), Q_X9_townAt 1 n μ rv2 → (rv2 < 0 → R μ (some (kI (-1)))) ∧ (¬ rv2 < 0 → r32 k ∧ ((¬ k = 0) → r32 k ∧ ((k < (10 : Int)) → R μ (some (kI (-1)))) ∧ (¬ (k < (10 : Int)) → r32 k ∧ r32 (10 + (μ rv2 1)) ∧ ((k < (10 + (μ rv2 1))) → P_X4_couple 198 rv2 μ ∧ (∀ (μ4 : Mem), Q_X4_couple 198 rv2 μ μ4 → V_X10_postman R 67 [(0, kR 0), (2, kI k)] μ4)) ∧ (¬ (k < (10 + (μ rv2 1))) → R μ (some (kI (-1)))))) ∧ (¬ (¬ k = 0) → P_X4_couple 198 rv2 μ ∧ (∀ (μ9 : Mem), Q_X4_couple 198 rv2 μ μ9 → V_X10_postman R 27 [(0, kR 0), (3, kR rv2)] μ9))))) : V_X10_postman R 0 [(0, kR 0), (1, kI n), (2, kI k)] μ := by
  refine vm_step2 mt_X10_postman ok_X10_postman [(27, [0, 3]), (67, [0, 2])] 1000 ?_
  show isC 0 10 ∧ isC 1 9 ∧ P_X9_townAt 1 n μ ∧ (∀ (rv2 : Int), Q_X9_townAt 1 n μ rv2 → (¬ rv2 < 0 → r32 k ∧ ((¬ k = 0) → (r32 k ∧ r32 (10 : Int)) ∧ ((k < (10 : Int)) → R μ (some (kI (-1)))) ∧ (¬ (k < (10 : Int)) → isC rv2 7 ∧ (r32 k ∧ r32 (10 + (μ rv2 1))) ∧ ((k < (10 + (μ rv2 1))) → isC 0 10 ∧ isC 198 4 ∧ P_X4_couple 198 rv2 μ ∧ (∀ (μ4 : Mem), Q_X4_couple 198 rv2 μ μ4 → V_X10_postman R 67 [(0, kR 0), (2, kI k)] μ4)) ∧ (¬ (k < (10 + (μ rv2 1))) → R μ (some (kI (-1)))))) ∧ (¬ (¬ k = 0) → isC 0 10 ∧ isC 198 4 ∧ P_X4_couple 198 rv2 μ ∧ (∀ (μ9 : Mem), Q_X4_couple 198 rv2 μ μ9 → V_X10_postman R 27 [(0, kR 0), (3, kR rv2)] μ9))) ∧ (rv2 < 0 → R μ (some (kI (-1)))))
  exact ⟨c_0, ⟨c_1, H.1, fun rv2 hq3 => ⟨fun hz13 => have h_rv2 := hq3.2.2 hz13; ⟨((H.2 rv2 hq3).2 hz13).1, fun hc12 => ⟨⟨(((H.2 rv2 hq3).2 hz13).2.1 hc12).1, by unfold r32; omega⟩, fun hc8 => ((((H.2 rv2 hq3).2 hz13).2.1 hc12).2.1 hc8), fun hc8 => ⟨isT_C h_rv2, ⟨⟨((((H.2 rv2 hq3).2 hz13).2.1 hc12).2.2 hc8).1, ((((H.2 rv2 hq3).2 hz13).2.1 hc12).2.2 hc8).2.1⟩, fun hc7 => ⟨c_0, ⟨c_198, (((((H.2 rv2 hq3).2 hz13).2.1 hc12).2.2 hc8).2.2.1 hc7).1, fun μ4 hq6 => ((((((H.2 rv2 hq3).2 hz13).2.1 hc12).2.2 hc8).2.2.1 hc7).2 μ4 hq6)⟩⟩, fun hc7 => (((((H.2 rv2 hq3).2 hz13).2.1 hc12).2.2 hc8).2.2.2 hc7)⟩⟩⟩, fun hc12 => ⟨c_0, ⟨c_198, (((H.2 rv2 hq3).2 hz13).2.2 hc12).1, fun μ9 hq11 => ((((H.2 rv2 hq3).2 hz13).2.2 hc12).2 μ9 hq11)⟩⟩⟩, fun hz13 => ((H.2 rv2 hq3).1 hz13)⟩⟩⟩
set_option maxRecDepth 20000 in
theorem vc_X10_postman_27 {R : Mem → Option AV → Prop} {t : Int} {μ : Mem} (ht : isT t) (H : P_X7_allMinutes t μ ∧ R μ (some (kI ((F_X7_allMinutes t μ) + (μ 198 2))))) : V_X10_postman R 27 [(0, kR 0), (3, kR t)] μ := by
  refine vm_step2 mt_X10_postman ok_X10_postman [(27, [0, 3]), (67, [0, 2])] 1000 ?_
  show isC t 7 ∧ P_X7_allMinutes t μ ∧ isC 0 10 ∧ isC 198 4 ∧ R μ (some (kI ((F_X7_allMinutes t μ) + (μ 198 2))))
  exact ⟨isT_C ht, H.1, ⟨c_0, ⟨c_198, H.2⟩⟩⟩
set_option maxRecDepth 20000 in
theorem vc_X10_postman_67 {R : Mem → Option AV → Prop} {k : Int} {μ : Mem} (H : (0 ≤ (k - 10) ∧ (k - 10) < 8) ∧ R μ (some (kI (μ 200 (k - 10))))) : V_X10_postman R 67 [(0, kR 0), (2, kI k)] μ := by
  refine vm_step2 mt_X10_postman ok_X10_postman [(27, [0, 3]), (67, [0, 2])] 1000 ?_
  show isC 0 10 ∧ isC 198 4 ∧ inA 200 0 (k - 10) ∧ R μ (some (kI (μ 200 (k - 10))))
  exact ⟨c_0, ⟨c_198, ⟨isArr.in a_200 H.1.1 H.1.2, H.2⟩⟩⟩
theorem body_X10_postman {o n k : Int} {μ : Mem} {R : Mem → Option AV → Prop} (h : P_X10_postman o n k μ) (hR : ∀ (μ' : Mem) (r : Int), Q_X10_postman o n k μ μ' r → R μ' (some (kI r))) : V_X10_postman R 0 [(0, kR o), (1, kI n), (2, kI k)] μ := by
  obtain ⟨rfl, ⟨c, hc⟩, r_n, r_k⟩ := h
  obtain ⟨pt, ht⟩ := ask_town hc r_n
  have fin : ∀ (m : Mem) (x : Int), Ask μ m → x = onT (wvC μ 1) n (-1) (postmanT k) → R m (some (kI x)) := fun m x ha hx => hR m x ⟨ha, hx⟩
  refine vc_X10_postman_0 ⟨pt, fun t q => ?_⟩
  rcases ht t q with ⟨hneg, hno⟩ | ⟨hpos, hr, hl, hm, ht4, hy⟩
  · exact ⟨fun _ => fin μ _ (Ask_0 μ) (hno _ _).symm, fun q => absurd hneg q⟩
  · have hT := hr.1.1
    have ok := hr.1.2
    have hj := hr.2.2.1
    have hp : 2 ≤ μ t 1 ∧ μ t 1 ≤ 8 := ok.1
    have hpe : tv μ t 0 0 = μ t 1 := rfl
    have hle : tv μ t 1 0 = μ t 2 := rfl
    have a0 := Ask_0 μ
    rw [hy] at fin
    unfold postmanT at fin
    refine ⟨fun q => absurd q hpos, fun _ => ?_⟩
    refine ⟨r_k, fun c0 => ⟨r_k, fun c1 => fin μ _ a0 ?_, fun c1 => ⟨r_k, rr (by omega), fun c2 => ⟨⟨rfl, hr.1, hr.2.1⟩, fun m4 q4 => vc_X10_postman_67 ⟨by omega, ?_⟩⟩, fun c2 => fin μ _ a0 ?_⟩⟩, fun c0 => ⟨⟨rfl, hr.1, hr.2.1⟩, fun m4 q4 => vc_X10_postman_27 hT ?_⟩⟩
    · rw [if_neg c0, if_neg (by omega)]
    · obtain ⟨h2, h200, hj4, hf⟩ := q4
      refine fin m4 _ (Ask_far fun z hz => hf z (by omega) (by omega) (by omega)) ?_
      rw [if_neg c0, if_pos (by rw [hpe]; omega)]
      exact h200 (k - 10) (by omega) (by omega)
    · rw [if_neg c0, if_neg (by rw [hpe]; omega)]
    · obtain ⟨h2, h200, hj4, hf⟩ := q4
      have frt : ∀ z : Int, t ≤ z → z ≤ t + 9 → m4 z = μ z := fun z z0 z1 => hf z (by omega) (by omega) (by omega)
      have hr4 := TR_frame hr frt
      have etv := tv_frame frt
      refine ⟨hr4.1, fin m4 _ (Ask_far fun z hz => hf z (by omega) (by omega) (by omega)) ?_⟩
      rw [if_pos (Classical.byContradiction c0), h2]
      unfold F_X7_allMinutes
      rw [etv]
theorem ct_X10_postman : Ct mX10_postman 5 117 0 0 (nrmS S_X10_postman) := by
  refine ct_vm (own := RX10) (by decide +kernel) rfl ?_ ?_
  · intro as μ Q hS
    unfold S_X10_postman at hS
    split at hS
    · exact Nat.le_of_ble_eq_true rfl
    · exact hS.elim
  · intro as μ R hS
    unfold S_X10_postman at hS
    split at hS
    · exact body_X10_postman hS.1 hS.2
    · exact hS.elim
def bellT (a k : Int) (v : TV) : Int := if (0 ≤ a ∧ a ≤ 999) ∧ 0 ≤ k then (if k = 0 then (beV v a (cellV v + 1)).2.1 else if k = 1 then (beV v a (cellV v + 1)).2.2 else if k = 2 then (beV v a (cellV v + 1)).1 else stopV (wayV v) oneV (v 0 0) (beV v a (cellV v + 1)).1 (k - 3)) else -1
def P_X10_bell (o n a k : Int) (μ : Mem) : Prop := o = 0 ∧ (∃ c, CI c μ) ∧ r32 n ∧ r32 a ∧ r32 k
def Q_X10_bell (_ n a k : Int) (μ μ' : Mem) (r : Int) : Prop := Ask μ μ' ∧ r = onT (wvC μ 1) n (-1) (bellT a k)
def S_X10_bell : S0t := fun as μ Q => match as with
  | [(2, x0), (0, x1), (0, x2), (0, x3)] => P_X10_bell x0 x1 x2 x3 μ ∧ ∀ (μ' : Mem) (r : Int), Q_X10_bell x0 x1 x2 x3 μ μ' r → Q μ' (some (kI r))
  | _ => False
theorem mono_X10_bell : Mono S_X10_bell := by
  intro as μ Q Q' h hS
  unfold S_X10_bell at hS ⊢
  split at hS
  · exact ⟨hS.1, fun μ' r q => h _ _ (hS.2 _ _ q)⟩
  · exact hS.elim
def iX10_bell : Inf := (kX10_bell, fTX10, pTX10, cTX10, lTX10, sTX10, [(110, 0, 1, 9, S_X9_townAt), (354, 0, 2, 6, S_X6_planBell), (176, 0, 1, 6, S_X6_stopAt)])
theorem ok_X10_bell : infOK iX10_bell mX10_bell RX10 4 100 := ⟨kkX10_bell, fTX10_ok, pTX10_ok _, cTX10_ok, lTX10_ok, sTX10_ok, c_cons ⟨mX9_townAt, 0, 0, ct_X9_townAt, mmX9_townAt, vvX9_townAt, lkX10_110, ⟨by decide, by decide⟩, ⟨_, _, rfl⟩, by decide, mono_X9_townAt⟩ (c_cons ⟨mX6_planBell, 3, 75, ct_X6_planBell, mmX6_planBell, vvX6_planBell, lkX10_354, ⟨by decide, by decide⟩, ⟨_, _, rfl⟩, by decide, mono_X6_planBell⟩ (c_cons ⟨mX6_stopAt, 0, 0, ct_X6_stopAt, mmX6_stopAt, vvX6_stopAt, lkX10_176, ⟨by decide, by decide⟩, ⟨_, _, rfl⟩, by decide, mono_X6_stopAt⟩ (c_nil)))⟩
theorem mt_X10_bell : mtOK [] RX10 4 100 := mt_nil
abbrev V_X10_bell (R : Mem → Option AV → Prop) (pc : Nat) (lc : List (Nat × AV)) (μ : Mem) : Prop := VM mX10_bell RX10 4 100 R pc lc [] μ
set_option maxRecDepth 20000 in
theorem vc_X10_bell_0 {R : Mem → Option AV → Prop} {n a k : Int} {μ : Mem} (H : P_X9_townAt 1 n μ ∧ (∀ (rv2 : Int), Q_X9_townAt 1 n μ rv2 → (rv2 < 0 → R μ (some (kI (-1)))) ∧ (¬ rv2 < 0 → r32 a ∧ ((a < 0) → R μ (some (kI (-1)))) ∧ (¬ (a < 0) → r32 a ∧ (((999 : Int) < a) → R μ (some (kI (-1)))) ∧ (¬ ((999 : Int) < a) → r32 k ∧ ((0 ≤ k) → P_X6_planBell 149 rv2 a μ ∧ (∀ (μ4 : Mem), Q_X6_planBell 149 rv2 a μ μ4 → V_X10_bell R 42 [(0, kR 0), (3, kI k)] μ4)) ∧ (¬ (0 ≤ k) → R μ (some (kI (-1))))))))) : V_X10_bell R 0 [(0, kR 0), (1, kI n), (2, kI a), (3, kI k)] μ := by
  refine vm_step2 mt_X10_bell ok_X10_bell [(42, [0, 3])] 1000 ?_
  show isC 0 10 ∧ isC 1 9 ∧ P_X9_townAt 1 n μ ∧ (∀ (rv2 : Int), Q_X9_townAt 1 n μ rv2 → (rv2 < 0 → R μ (some (kI (-1)))) ∧ (¬ rv2 < 0 → r32 a ∧ ((a < 0) → R μ (some (kI (-1)))) ∧ (¬ (a < 0) → (r32 a ∧ r32 (999 : Int)) ∧ (((999 : Int) < a) → R μ (some (kI (-1)))) ∧ (¬ ((999 : Int) < a) → r32 k ∧ ((0 ≤ k) → isC 0 10 ∧ isC 149 6 ∧ P_X6_planBell 149 rv2 a μ ∧ (∀ (μ4 : Mem), Q_X6_planBell 149 rv2 a μ μ4 → V_X10_bell R 42 [(0, kR 0), (3, kI k)] μ4)) ∧ (¬ (0 ≤ k) → R μ (some (kI (-1))))))))
  exact ⟨c_0, ⟨c_1, H.1, fun rv2 hq3 => ⟨fun hz10 => ((H.2 rv2 hq3).1 hz10), fun hz10 => have h_rv2 := hq3.2.2 hz10; ⟨((H.2 rv2 hq3).2 hz10).1, fun hc9 => (((H.2 rv2 hq3).2 hz10).2.1 hc9), fun hc9 => ⟨⟨(((H.2 rv2 hq3).2 hz10).2.2 hc9).1, by unfold r32; omega⟩, fun hc8 => ((((H.2 rv2 hq3).2 hz10).2.2 hc9).2.1 hc8), fun hc8 => ⟨((((H.2 rv2 hq3).2 hz10).2.2 hc9).2.2 hc8).1, fun hc7 => ⟨c_0, ⟨c_149, (((((H.2 rv2 hq3).2 hz10).2.2 hc9).2.2 hc8).2.1 hc7).1, fun μ4 hq6 => ((((((H.2 rv2 hq3).2 hz10).2.2 hc9).2.2 hc8).2.1 hc7).2 μ4 hq6)⟩⟩, fun hc7 => (((((H.2 rv2 hq3).2 hz10).2.2 hc9).2.2 hc8).2.2 hc7)⟩⟩⟩⟩⟩⟩
set_option maxRecDepth 20000 in
theorem vc_X10_bell_42 {R : Mem → Option AV → Prop} {k : Int} {μ : Mem} (H : r32 k ∧ (k < 0 ∨ 2 < k → P_X6_stopAt 149 (k - 3) μ ∧ R μ (some (kI (F_X6_stopAt 149 (k - 3) μ)))) ∧ (k = 0 → R μ (some (kI (μ 149 8)))) ∧ (k = 1 → R μ (some (kI (μ 149 7)))) ∧ (k = 2 → R μ (some (kI (μ 149 9))))) : V_X10_bell R 42 [(0, kR 0), (3, kI k)] μ := by
  refine vm_step2 mt_X10_bell ok_X10_bell [(42, [0, 3])] 1000 ?_
  show r32 k ∧ (k < 0 ∨ 2 < k → isC 0 10 ∧ isC 149 6 ∧ P_X6_stopAt 149 (k - 3) μ ∧ R μ (some (kI (F_X6_stopAt 149 (k - 3) μ)))) ∧ (k = 0 → isC 0 10 ∧ isC 149 6 ∧ R μ (some (kI (μ 149 8)))) ∧ (k = 1 → isC 0 10 ∧ isC 149 6 ∧ R μ (some (kI (μ 149 7)))) ∧ (k = 2 → isC 0 10 ∧ isC 149 6 ∧ R μ (some (kI (μ 149 9)))) ∧ True
  exact ⟨H.1, fun hc11 => ⟨c_0, ⟨c_149, (H.2.1 hc11).1, (H.2.1 hc11).2⟩⟩, fun hc11 => ⟨c_0, ⟨c_149, (H.2.2.1 hc11)⟩⟩, fun hc11 => ⟨c_0, ⟨c_149, (H.2.2.2.1 hc11)⟩⟩, fun hc11 => ⟨c_0, ⟨c_149, (H.2.2.2.2 hc11)⟩⟩, trivial⟩
theorem body_X10_bell {o n a k : Int} {μ : Mem} {R : Mem → Option AV → Prop} (h : P_X10_bell o n a k μ) (hR : ∀ (μ' : Mem) (r : Int), Q_X10_bell o n a k μ μ' r → R μ' (some (kI r))) : V_X10_bell R 0 [(0, kR o), (1, kI n), (2, kI a), (3, kI k)] μ := by
  obtain ⟨rfl, ⟨c, hc⟩, r_n, r_a, r_k⟩ := h
  obtain ⟨pt, ht⟩ := ask_town hc r_n
  have fin : ∀ (m : Mem) (x : Int), Ask μ m → x = onT (wvC μ 1) n (-1) (bellT a k) → R m (some (kI x)) := fun m x ha hx => hR m x ⟨ha, hx⟩
  refine vc_X10_bell_0 ⟨pt, fun t q => ?_⟩
  rcases ht t q with ⟨hneg, hno⟩ | ⟨hpos, hr, hl, hm, ht4, hy⟩
  · exact ⟨fun _ => fin μ _ (Ask_0 μ) (hno _ _).symm, fun q => absurd hneg q⟩
  · have hT := hr.1.1
    have ok := hr.1.2
    have hj := hr.2.2.1
    have hp : 2 ≤ μ t 1 ∧ μ t 1 ≤ 8 := ok.1
    have hpe : tv μ t 0 0 = μ t 1 := rfl
    have hle : tv μ t 1 0 = μ t 2 := rfl
    have a0 := Ask_0 μ
    rw [hy] at fin
    unfold bellT at fin
    refine ⟨fun q => absurd q hpos, fun _ => ?_⟩
    refine ⟨r_a, fun c1 => fin μ _ a0 ?_, fun c1 => ⟨r_a, fun c2 => fin μ _ a0 ?_, fun c2 => ⟨r_k, fun c3 => ⟨⟨rfl, hr, r_a⟩, fun m4 q4 => vc_X10_bell_42 ?_⟩, fun c3 => fin μ _ a0 ?_⟩⟩⟩
    · rw [if_neg (by omega)]
    · rw [if_neg (by omega)]
    · obtain ⟨⟨h9, h8, h7⟩, hrow, hf⟩ := q4
      have hA := ask_routes hf
      rw [if_pos (by omega)] at fin
      refine ⟨r_k, fun c4 => ?_, fun c4 => fin m4 _ hA ?_, fun c4 => fin m4 _ hA ?_, fun c4 => fin m4 _ hA ?_⟩
      · obtain ⟨s1, s2⟩ := stop_row hrow (k := k - 3) (by have := r_k; unfold r32 at this ⊢; omega)
        refine ⟨s1, fin m4 _ hA ?_⟩
        rw [if_neg (by omega), if_neg (by omega), if_neg (by omega), s2]
      · rw [if_pos c4, h8]
      · rw [if_neg (by omega), if_pos c4, h7]
      · rw [if_neg (by omega), if_neg (by omega), if_pos c4, h9]
    · rw [if_neg (by omega)]
theorem ct_X10_bell : Ct mX10_bell 4 100 0 0 (nrmS S_X10_bell) := by
  refine ct_vm (own := RX10) (by decide +kernel) rfl ?_ ?_
  · intro as μ Q hS
    unfold S_X10_bell at hS
    split at hS
    · exact Nat.le_of_ble_eq_true rfl
    · exact hS.elim
  · intro as μ R hS
    unfold S_X10_bell at hS
    split at hS
    · exact body_X10_bell hS.1 hS.2
    · exact hS.elim
