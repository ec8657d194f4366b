/-- the k-th stop of the least row -/
def stopV (W : Int → Int → Int) (r : Int → Int) (n g k : Int) : Int := if 0 ≤ k ∧ k < popc g then (rtV W r n g (k + 1)).1 else -1
theorem stop_row {μ : Mem} {W : Int → Int → Int} {r : Int → Int} {n g k : Int} (h : RowR μ W r n g) (rk : r32 k) : P_X6_stopAt 149 k μ ∧ F_X6_stopAt 149 k μ = stopV W r n g k := by
  have hb := popc_bd (s := g)
  refine ⟨⟨rfl, rk, by rw [h.1]; exact hb⟩, ?_⟩
  unfold F_X6_stopAt stopV
  rw [h.1]
  by_cases c : 0 ≤ k ∧ k < popc g
  · rw [if_pos c, if_pos c]; exact h.2 k c.1 c.2
  · rw [if_neg c, if_neg c]
theorem ask_routes {μ m : Mem} (hf : ∀ z : Int, (z < 149 ∨ 155 < z) → m z = μ z) : Ask μ m := Ask_far fun z hz => hf z (by omega)
def bestT (k : Int) (v : TV) : Int := if k < 0 then -1 else if k = 0 then rcV (wayV v) (sumV v) (v 0 0) 0 (awayV v) else stopV (wayV v) (sumV v) (v 0 0) (awayV v) (k - 1)
def P_X10_best (o n k : Int) (μ : Mem) : Prop := o = 0 ∧ (∃ c, CI c μ) ∧ r32 n ∧ r32 k
def Q_X10_best (_ n k : Int) (μ μ' : Mem) (r : Int) : Prop := Ask μ μ' ∧ r = onT (wvC μ 1) n (-1) (bestT k)
def S_X10_best : S0t := fun as μ Q => match as with
  | [(2, x0), (0, x1), (0, x2)] => P_X10_best x0 x1 x2 μ ∧ ∀ (μ' : Mem) (r : Int), Q_X10_best x0 x1 x2 μ μ' r → Q μ' (some (kI r))
  | _ => False
theorem mono_X10_best : Mono S_X10_best := by
  intro as μ Q Q' h hS
  unfold S_X10_best at hS ⊢
  split at hS
  · exact ⟨hS.1, fun μ' r q => h _ _ (hS.2 _ _ q)⟩
  · exact hS.elim
def iX10_best : Inf := (kX10_best, fTX10, pTX10, cTX10, lTX10, sTX10, [(110, 0, 1, 9, S_X9_townAt), (170, 0, 1, 6, S_X6_planWalk), (176, 0, 1, 6, S_X6_stopAt)])
theorem ok_X10_best : infOK iX10_best mX10_best RX10 4 96 := ⟨kkX10_best, fTX10_ok, pTX10_ok _, cTX10_ok, lTX10_ok, sTX10_ok, c_cons ⟨mX9_townAt, 0, 0, ct_X9_townAt, mmX9_townAt, vvX9_townAt, lkX10_110, ⟨by decide, by decide⟩, ⟨_, _, rfl⟩, by decide, mono_X9_townAt⟩ (c_cons ⟨mX6_planWalk, 3, 75, ct_X6_planWalk, mmX6_planWalk, vvX6_planWalk, lkX10_170, ⟨by decide, by decide⟩, ⟨_, _, rfl⟩, by decide, mono_X6_planWalk⟩ (c_cons ⟨mX6_stopAt, 0, 0, ct_X6_stopAt, mmX6_stopAt, vvX6_stopAt, lkX10_176, ⟨by decide, by decide⟩, ⟨_, _, rfl⟩, by decide, mono_X6_stopAt⟩ (c_nil)))⟩
theorem mt_X10_best : mtOK [] RX10 4 96 := mt_nil
abbrev V_X10_best (R : Mem → Option AV → Prop) (pc : Nat) (lc : List (Nat × AV)) (μ : Mem) : Prop := VM mX10_best RX10 4 96 R pc lc [] μ
set_option maxRecDepth 20000 in
theorem vc_X10_best_0 {R : Mem → Option AV → Prop} {n k : Int} {μ : Mem} (H : P_X9_townAt 1 n μ ∧ (∀ (rv2 : Int), Q_X9_townAt 1 n μ rv2 → (rv2 < 0 → R μ (some (kI (-1)))) ∧ (¬ rv2 < 0 → r32 k ∧ ((0 ≤ k) → P_X6_planWalk 149 rv2 μ ∧ (∀ (μ4 : Mem), Q_X6_planWalk 149 rv2 μ μ4 → V_X10_best R 27 [(0, kR 0), (2, kI k)] μ4)) ∧ (¬ (0 ≤ k) → R μ (some (kI (-1))))))) : V_X10_best R 0 [(0, kR 0), (1, kI n), (2, kI k)] μ := by
  refine vm_step2 mt_X10_best ok_X10_best [(27, [0, 2])] 1000 ?_
  show isC 0 10 ∧ isC 1 9 ∧ P_X9_townAt 1 n μ ∧ (∀ (rv2 : Int), Q_X9_townAt 1 n μ rv2 → (rv2 < 0 → R μ (some (kI (-1)))) ∧ (¬ rv2 < 0 → r32 k ∧ ((0 ≤ k) → isC 0 10 ∧ isC 149 6 ∧ P_X6_planWalk 149 rv2 μ ∧ (∀ (μ4 : Mem), Q_X6_planWalk 149 rv2 μ μ4 → V_X10_best R 27 [(0, kR 0), (2, kI k)] μ4)) ∧ (¬ (0 ≤ k) → R μ (some (kI (-1))))))
  exact ⟨c_0, ⟨c_1, H.1, fun rv2 hq3 => ⟨fun hz8 => ((H.2 rv2 hq3).1 hz8), fun hz8 => have h_rv2 := hq3.2.2 hz8; ⟨((H.2 rv2 hq3).2 hz8).1, fun hc7 => ⟨c_0, ⟨c_149, (((H.2 rv2 hq3).2 hz8).2.1 hc7).1, fun μ4 hq6 => ((((H.2 rv2 hq3).2 hz8).2.1 hc7).2 μ4 hq6)⟩⟩, fun hc7 => (((H.2 rv2 hq3).2 hz8).2.2 hc7)⟩⟩⟩⟩
set_option maxRecDepth 20000 in
theorem vc_X10_best_27 {R : Mem → Option AV → Prop} {k : Int} {μ : Mem} (H : r32 k ∧ ((¬ k = 0) → P_X6_stopAt 149 (k - 1) μ ∧ R μ (some (kI (F_X6_stopAt 149 (k - 1) μ)))) ∧ (¬ (¬ k = 0) → R μ (some (kI (μ 149 7))))) : V_X10_best R 27 [(0, kR 0), (2, kI k)] μ := by
  refine vm_step2 mt_X10_best ok_X10_best [(27, [0, 2])] 1000 ?_
  show r32 k ∧ ((¬ k = 0) → isC 0 10 ∧ isC 149 6 ∧ P_X6_stopAt 149 (k - 1) μ ∧ R μ (some (kI (F_X6_stopAt 149 (k - 1) μ)))) ∧ (¬ (¬ k = 0) → isC 0 10 ∧ isC 149 6 ∧ R μ (some (kI (μ 149 7))))
  exact ⟨H.1, fun hc9 => ⟨c_0, ⟨c_149, (H.2.1 hc9).1, (H.2.1 hc9).2⟩⟩, fun hc9 => ⟨c_0, ⟨c_149, (H.2.2 hc9)⟩⟩⟩
theorem body_X10_best {o n k : Int} {μ : Mem} {R : Mem → Option AV → Prop} (h : P_X10_best o n k μ) (hR : ∀ (μ' : Mem) (r : Int), Q_X10_best o n k μ μ' r → R μ' (some (kI r))) : V_X10_best R 0 [(0, kR o), (1, kI n), (2, kI k)] μ := by
  obtain ⟨rfl, ⟨c, hc⟩, r_n, r_k⟩ := h
  obtain ⟨pt, ht⟩ := ask_town hc r_n
  have fin : ∀ (m : Mem) (x : Int), Ask μ m → x = onT (wvC μ 1) n (-1) (bestT k) → R m (some (kI x)) := fun m x ha hx => hR m x ⟨ha, hx⟩
  refine vc_X10_best_0 ⟨pt, fun t q => ?_⟩
  rcases ht t q with ⟨hneg, hno⟩ | ⟨hpos, hr, hl, hm, ht4, hy⟩
  · exact ⟨fun _ => fin μ _ (Ask_0 μ) (hno _ _).symm, fun q => absurd hneg q⟩
  · have hT := hr.1.1
    have ok := hr.1.2
    have hj := hr.2.2.1
    have hp : 2 ≤ μ t 1 ∧ μ t 1 ≤ 8 := ok.1
    have hpe : tv μ t 0 0 = μ t 1 := rfl
    have hle : tv μ t 1 0 = μ t 2 := rfl
    have a0 := Ask_0 μ
    rw [hy] at fin
    unfold bestT at fin
    refine ⟨fun q => absurd q hpos, fun _ => ?_⟩
    refine ⟨r_k, fun c => ⟨⟨rfl, hr⟩, fun m4 q4 => vc_X10_best_27 ⟨r_k, fun c0 => ?_, fun c0 => ?_⟩⟩, fun c => fin μ _ a0 ?_⟩
    · obtain ⟨⟨h7, hrow, _⟩, hf⟩ := q4
      obtain ⟨s1, s2⟩ := stop_row hrow (k := k - 1) (by have := r_k; unfold r32 at this ⊢; omega)
      refine ⟨s1, fin m4 _ (ask_routes hf) ?_⟩
      rw [if_neg (by omega), if_neg c0, s2]
    · obtain ⟨⟨h7, hrow, _⟩, hf⟩ := q4
      refine fin m4 _ (ask_routes hf) ?_
      rw [if_neg (by omega), if_pos (Classical.byContradiction c0), h7]
    · rw [if_pos (by omega)]
theorem ct_X10_best : Ct mX10_best 4 96 0 0 (nrmS S_X10_best) := by
  refine ct_vm (own := RX10) (by decide +kernel) rfl ?_ ?_
  · intro as μ Q hS
    unfold S_X10_best at hS
    split at hS
    · exact Nat.le_of_ble_eq_true rfl
    · exact hS.elim
  · intro as μ R hS
    unfold S_X10_best at hS
    split at hS
    · exact body_X10_best hS.1 hS.2
    · exact hS.elim
def twoT (k : Int) (v : TV) : Int := if k < 0 ∨ 2 < k then -1 else if k = 0 then (twoV v (awayV v + 1)).1 else if k = 1 then (twoV v (awayV v + 1)).2 else bxor (awayV v) (twoV v (awayV v + 1)).2
def P_X10_two (o n k : Int) (μ : Mem) : Prop := o = 0 ∧ (∃ c, CI c μ) ∧ r32 n ∧ r32 k
def Q_X10_two (_ n k : Int) (μ μ' : Mem) (r : Int) : Prop := Ask μ μ' ∧ r = onT (wvC μ 1) n (-1) (twoT k)
def S_X10_two : S0t := fun as μ Q => match as with
  | [(2, x0), (0, x1), (0, x2)] => P_X10_two x0 x1 x2 μ ∧ ∀ (μ' : Mem) (r : Int), Q_X10_two x0 x1 x2 μ μ' r → Q μ' (some (kI r))
  | _ => False
theorem mono_X10_two : Mono S_X10_two := by
  intro as μ Q Q' h hS
  unfold S_X10_two at hS ⊢
  split at hS
  · exact ⟨hS.1, fun μ' r q => h _ _ (hS.2 _ _ q)⟩
  · exact hS.elim
def iX10_two : Inf := (kX10_two, fTX10, pTX10, cTX10, lTX10, sTX10, [(110, 0, 1, 9, S_X9_townAt), (179, 0, 1, 6, S_X6_planTwo), (185, 0, 0, 7, S_X7_cellarsAway)])
theorem ok_X10_two : infOK iX10_two mX10_two RX10 5 119 := ⟨kkX10_two, fTX10_ok, pTX10_ok _, cTX10_ok, lTX10_ok, sTX10_ok, c_cons ⟨mX9_townAt, 0, 0, ct_X9_townAt, mmX9_townAt, vvX9_townAt, lkX10_110, ⟨by decide, by decide⟩, ⟨_, _, rfl⟩, by decide, mono_X9_townAt⟩ (c_cons ⟨mX6_planTwo, 4, 96, ct_X6_planTwo, mmX6_planTwo, vvX6_planTwo, lkX10_179, ⟨by decide, by decide⟩, ⟨_, _, rfl⟩, by decide, mono_X6_planTwo⟩ (c_cons ⟨mX7_cellarsAway, 0, 0, ct_X7_cellarsAway, mmX7_cellarsAway, vvX7_cellarsAway, lkX10_185, ⟨by decide, by decide⟩, ⟨_, _, rfl⟩, by decide, mono_X7_cellarsAway⟩ (c_nil)))⟩
theorem mt_X10_two : mtOK [] RX10 5 119 := mt_nil
abbrev V_X10_two (R : Mem → Option AV → Prop) (pc : Nat) (lc : List (Nat × AV)) (μ : Mem) : Prop := VM mX10_two RX10 5 119 R pc lc [] μ
set_option maxRecDepth 20000 in
theorem vc_X10_two_0 {R : Mem → Option AV → Prop} {n k : Int} {μ : Mem} (H : P_X9_townAt 1 n μ ∧ (∀ (rv2 : Int), Q_X9_townAt 1 n μ rv2 → (rv2 < 0 → R μ (some (kI (-1)))) ∧ (¬ rv2 < 0 → r32 k ∧ ((k < 0) → R μ (some (kI (-1)))) ∧ (¬ (k < 0) → r32 k ∧ ((k ≤ (2 : Int)) → P_X6_planTwo 149 rv2 μ ∧ (∀ (μ4 : Mem), Q_X6_planTwo 149 rv2 μ μ4 → V_X10_two R 32 [(0, kR 0), (2, kI k), (3, kR rv2)] μ4)) ∧ (¬ (k ≤ (2 : Int)) → R μ (some (kI (-1)))))))) : V_X10_two R 0 [(0, kR 0), (1, kI n), (2, kI k)] μ := by
  refine vm_step2 mt_X10_two ok_X10_two [(32, [0, 2, 3])] 1000 ?_
  show isC 0 10 ∧ isC 1 9 ∧ P_X9_townAt 1 n μ ∧ (∀ (rv2 : Int), Q_X9_townAt 1 n μ rv2 → (rv2 < 0 → R μ (some (kI (-1)))) ∧ (¬ rv2 < 0 → r32 k ∧ ((k < 0) → R μ (some (kI (-1)))) ∧ (¬ (k < 0) → (r32 k ∧ r32 (2 : Int)) ∧ ((k ≤ (2 : Int)) → isC 0 10 ∧ isC 149 6 ∧ P_X6_planTwo 149 rv2 μ ∧ (∀ (μ4 : Mem), Q_X6_planTwo 149 rv2 μ μ4 → V_X10_two R 32 [(0, kR 0), (2, kI k), (3, kR rv2)] μ4)) ∧ (¬ (k ≤ (2 : Int)) → R μ (some (kI (-1)))))))
  exact ⟨c_0, ⟨c_1, H.1, fun rv2 hq3 => ⟨fun hz9 => ((H.2 rv2 hq3).1 hz9), fun hz9 => have h_rv2 := hq3.2.2 hz9; ⟨((H.2 rv2 hq3).2 hz9).1, fun hc8 => (((H.2 rv2 hq3).2 hz9).2.1 hc8), fun hc8 => ⟨⟨(((H.2 rv2 hq3).2 hz9).2.2 hc8).1, by unfold r32; omega⟩, fun hc7 => ⟨c_0, ⟨c_149, ((((H.2 rv2 hq3).2 hz9).2.2 hc8).2.1 hc7).1, fun μ4 hq6 => (((((H.2 rv2 hq3).2 hz9).2.2 hc8).2.1 hc7).2 μ4 hq6)⟩⟩, fun hc7 => ((((H.2 rv2 hq3).2 hz9).2.2 hc8).2.2 hc7)⟩⟩⟩⟩⟩
set_option maxRecDepth 20000 in
theorem vc_X10_two_32 {R : Mem → Option AV → Prop} {k t : Int} {μ : Mem} (ht : isT t) (H : r32 k ∧ ((¬ k = 0) → r32 k ∧ ((¬ k = (1 : Int)) → P_X7_cellarsAway t μ ∧ R μ (some (kI (bxor (F_X7_cellarsAway t μ) (μ 149 9))))) ∧ (¬ (¬ k = (1 : Int)) → R μ (some (kI (μ 149 9))))) ∧ (¬ (¬ k = 0) → R μ (some (kI (μ 149 7))))) : V_X10_two R 32 [(0, kR 0), (2, kI k), (3, kR t)] μ := by
  refine vm_step2 mt_X10_two ok_X10_two [(32, [0, 2, 3])] 1000 ?_
  show r32 k ∧ ((¬ k = 0) → (r32 k ∧ r32 (1 : Int)) ∧ ((¬ k = (1 : Int)) → isC t 7 ∧ P_X7_cellarsAway t μ ∧ isC 0 10 ∧ isC 149 6 ∧ R μ (some (kI (bxor (F_X7_cellarsAway t μ) (μ 149 9))))) ∧ (¬ (¬ k = (1 : Int)) → isC 0 10 ∧ isC 149 6 ∧ R μ (some (kI (μ 149 9))))) ∧ (¬ (¬ k = 0) → isC 0 10 ∧ isC 149 6 ∧ R μ (some (kI (μ 149 7))))
  exact ⟨H.1, fun hc11 => ⟨⟨(H.2.1 hc11).1, by unfold r32; omega⟩, fun hc10 => ⟨isT_C ht, ((H.2.1 hc11).2.1 hc10).1, ⟨c_0, ⟨c_149, ((H.2.1 hc11).2.1 hc10).2⟩⟩⟩, fun hc10 => ⟨c_0, ⟨c_149, ((H.2.1 hc11).2.2 hc10)⟩⟩⟩, fun hc11 => ⟨c_0, ⟨c_149, (H.2.2 hc11)⟩⟩⟩
theorem body_X10_two {o n k : Int} {μ : Mem} {R : Mem → Option AV → Prop} (h : P_X10_two o n k μ) (hR : ∀ (μ' : Mem) (r : Int), Q_X10_two o n k μ μ' r → R μ' (some (kI r))) : V_X10_two R 0 [(0, kR o), (1, kI n), (2, kI k)] μ := by
  obtain ⟨rfl, ⟨c, hc⟩, r_n, r_k⟩ := h
  obtain ⟨pt, ht⟩ := ask_town hc r_n
  have fin : ∀ (m : Mem) (x : Int), Ask μ m → x = onT (wvC μ 1) n (-1) (twoT k) → R m (some (kI x)) := fun m x ha hx => hR m x ⟨ha, hx⟩
  refine vc_X10_two_0 ⟨pt, fun t q => ?_⟩
  rcases ht t q with ⟨hneg, hno⟩ | ⟨hpos, hr, hl, hm, ht4, hy⟩
  · exact ⟨fun _ => fin μ _ (Ask_0 μ) (hno _ _).symm, fun q => absurd hneg q⟩
  · have hT := hr.1.1
    have ok := hr.1.2
    have hj := hr.2.2.1
    have hp : 2 ≤ μ t 1 ∧ μ t 1 ≤ 8 := ok.1
    have hpe : tv μ t 0 0 = μ t 1 := rfl
    have hle : tv μ t 1 0 = μ t 2 := rfl
    have a0 := Ask_0 μ
    rw [hy] at fin
    unfold twoT at fin
    refine ⟨fun q => absurd q hpos, fun _ => ?_⟩
    refine ⟨r_k, fun c => fin μ _ a0 ?_, fun c => ⟨r_k, fun c2 => ⟨⟨rfl, hr⟩, fun m4 q4 => vc_X10_two_32 hT ⟨r_k, fun c0 => ⟨r_k, fun c1 => ?_, fun c1 => ?_⟩, fun c0 => ?_⟩⟩, fun c2 => fin μ _ a0 ?_⟩⟩
    · rw [if_pos (Or.inl c)]
    · obtain ⟨⟨h7, h9⟩, hf⟩ := q4
      have hr4 := TR_frame hr (fun z z0 z1 => hf z (by omega))
      have ha4 := TR_away hr4
      have etv := tv_frame (μ := μ) (μ' := m4) (t := t) (fun z z0 z1 => hf z (by omega))
      refine ⟨ha4.2, fin m4 _ (ask_routes hf) ?_⟩
      rw [if_neg (by omega), if_neg c0, if_neg c1, ha4.1, etv, h9]
    · obtain ⟨⟨h7, h9⟩, hf⟩ := q4
      refine fin m4 _ (ask_routes hf) ?_
      rw [if_neg (by omega), if_neg c0, if_pos (Classical.byContradiction c1), h9]
    · obtain ⟨⟨h7, h9⟩, hf⟩ := q4
      refine fin m4 _ (ask_routes hf) ?_
      rw [if_neg (by omega), if_pos (Classical.byContradiction c0), h7]
    · rw [if_pos (Or.inr (by omega))]
theorem ct_X10_two : Ct mX10_two 5 119 0 0 (nrmS S_X10_two) := by
  refine ct_vm (own := RX10) (by decide +kernel) rfl ?_ ?_
  · intro as μ Q hS
    unfold S_X10_two at hS
    split at hS
    · exact Nat.le_of_ble_eq_true rfl
    · exact hS.elim
  · intro as μ R hS
    unfold S_X10_two at hS
    split at hS
    · exact body_X10_two hS.1 hS.2
    · exact hS.elim
def barrelsT (a k : Int) (v : TV) : Int := if k < 0 ∨ popc (cellV v) < 2 then -1 else if k = 0 then rcV (wayV v) (barV v a) (v 0 0) 0 (awayV v) else stopV (wayV v) (barV v a) (v 0 0) (awayV v) (k - 1)
def P_X10_barrels (o n a k : Int) (μ : Mem) : Prop := o = 0 ∧ (∃ c, CI c μ) ∧ r32 n ∧ r32 a ∧ r32 k
def Q_X10_barrels (_ n a k : Int) (μ μ' : Mem) (r : Int) : Prop := Ask μ μ' ∧ r = onT (wvC μ 1) n (-1) (barrelsT a k)
def S_X10_barrels : S0t := fun as μ Q => match as with
  | [(2, x0), (0, x1), (0, x2), (0, x3)] => P_X10_barrels x0 x1 x2 x3 μ ∧ ∀ (μ' : Mem) (r : Int), Q_X10_barrels x0 x1 x2 x3 μ μ' r → Q μ' (some (kI r))
  | _ => False
theorem mono_X10_barrels : Mono S_X10_barrels := by
  intro as μ Q Q' h hS
  unfold S_X10_barrels at hS ⊢
  split at hS
  · exact ⟨hS.1, fun μ' r q => h _ _ (hS.2 _ _ q)⟩
  · exact hS.elim
def iX10_barrels : Inf := (kX10_barrels, fTX10, pTX10, cTX10, lTX10, sTX10, [(110, 0, 1, 9, S_X9_townAt), (192, 1, 1, 0, S_J6_bitCount_0f7a4), (197, 0, 2, 6, S_X6_planBarrels), (176, 0, 1, 6, S_X6_stopAt)])
theorem ok_X10_barrels : infOK iX10_barrels mX10_barrels RX10 4 98 := ⟨kkX10_barrels, fTX10_ok, pTX10_ok _, cTX10_ok, lTX10_ok, sTX10_ok, c_cons ⟨mX9_townAt, 0, 0, ct_X9_townAt, mmX9_townAt, vvX9_townAt, lkX10_110, ⟨by decide, by decide⟩, ⟨_, _, rfl⟩, by decide, mono_X9_townAt⟩ (c_cons ⟨mJ6_bitCount_0f7a4, 0, 0, ct_J6_bitCount_0f7a4, mmJ6_bitCount_0f7a4, stJ6_bitCount_0f7a4, lkX10_192, ⟨by decide, by decide⟩, mono_J6_bitCount_0f7a4⟩ (c_cons ⟨mX6_planBarrels, 3, 75, ct_X6_planBarrels, mmX6_planBarrels, vvX6_planBarrels, lkX10_197, ⟨by decide, by decide⟩, ⟨_, _, rfl⟩, by decide, mono_X6_planBarrels⟩ (c_cons ⟨mX6_stopAt, 0, 0, ct_X6_stopAt, mmX6_stopAt, vvX6_stopAt, lkX10_176, ⟨by decide, by decide⟩, ⟨_, _, rfl⟩, by decide, mono_X6_stopAt⟩ (c_nil))))⟩
theorem mt_X10_barrels : mtOK [] RX10 4 98 := mt_nil
abbrev V_X10_barrels (R : Mem → Option AV → Prop) (pc : Nat) (lc : List (Nat × AV)) (μ : Mem) : Prop := VM mX10_barrels RX10 4 98 R pc lc [] μ
set_option maxRecDepth 20000 in
theorem vc_X10_barrels_0 {R : Mem → Option AV → Prop} {n a k : Int} {μ : Mem} (H : P_X9_townAt 1 n μ ∧ (∀ (rv2 : Int), Q_X9_townAt 1 n μ rv2 → (rv2 < 0 → R μ (some (kI (-1)))) ∧ (¬ rv2 < 0 → r32 k ∧ ((k < 0) → R μ (some (kI (-1)))) ∧ (¬ (k < 0) → P_J6_bitCount_0f7a4 (μ rv2 4) μ ∧ r32 (F_J6_bitCount_0f7a4 (μ rv2 4) μ) ∧ (((2 : Int) ≤ (F_J6_bitCount_0f7a4 (μ rv2 4) μ)) → P_X6_planBarrels 149 rv2 a μ ∧ (∀ (μ4 : Mem), Q_X6_planBarrels 149 rv2 a μ μ4 → V_X10_barrels R 43 [(0, kR 0), (3, kI k)] μ4)) ∧ (¬ ((2 : Int) ≤ (F_J6_bitCount_0f7a4 (μ rv2 4) μ)) → R μ (some (kI (-1)))))))) : V_X10_barrels R 0 [(0, kR 0), (1, kI n), (2, kI a), (3, kI k)] μ := by
  refine vm_step2 mt_X10_barrels ok_X10_barrels [(43, [0, 3])] 1000 ?_
  show isC 0 10 ∧ isC 1 9 ∧ P_X9_townAt 1 n μ ∧ (∀ (rv2 : Int), Q_X9_townAt 1 n μ rv2 → (rv2 < 0 → R μ (some (kI (-1)))) ∧ (¬ rv2 < 0 → r32 k ∧ ((k < 0) → R μ (some (kI (-1)))) ∧ (¬ (k < 0) → isC rv2 7 ∧ P_J6_bitCount_0f7a4 (μ rv2 4) μ ∧ (r32 (F_J6_bitCount_0f7a4 (μ rv2 4) μ) ∧ r32 (2 : Int)) ∧ (((2 : Int) ≤ (F_J6_bitCount_0f7a4 (μ rv2 4) μ)) → isC 0 10 ∧ isC 149 6 ∧ P_X6_planBarrels 149 rv2 a μ ∧ (∀ (μ4 : Mem), Q_X6_planBarrels 149 rv2 a μ μ4 → V_X10_barrels R 43 [(0, kR 0), (3, kI k)] μ4)) ∧ (¬ ((2 : Int) ≤ (F_J6_bitCount_0f7a4 (μ rv2 4) μ)) → R μ (some (kI (-1)))))))
  exact ⟨c_0, ⟨c_1, H.1, fun rv2 hq3 => ⟨fun hz9 => ((H.2 rv2 hq3).1 hz9), fun hz9 => have h_rv2 := hq3.2.2 hz9; ⟨((H.2 rv2 hq3).2 hz9).1, fun hc8 => (((H.2 rv2 hq3).2 hz9).2.1 hc8), fun hc8 => ⟨isT_C h_rv2, ⟨(((H.2 rv2 hq3).2 hz9).2.2 hc8).1, ⟨⟨(((H.2 rv2 hq3).2 hz9).2.2 hc8).2.1, by unfold r32; omega⟩, fun hc7 => ⟨c_0, ⟨c_149, ((((H.2 rv2 hq3).2 hz9).2.2 hc8).2.2.1 hc7).1, fun μ4 hq6 => (((((H.2 rv2 hq3).2 hz9).2.2 hc8).2.2.1 hc7).2 μ4 hq6)⟩⟩, fun hc7 => ((((H.2 rv2 hq3).2 hz9).2.2 hc8).2.2.2 hc7)⟩⟩⟩⟩⟩⟩⟩
set_option maxRecDepth 20000 in
theorem vc_X10_barrels_43 {R : Mem → Option AV → Prop} {k : Int} {μ : Mem} (H : r32 k ∧ ((¬ k = 0) → P_X6_stopAt 149 (k - 1) μ ∧ R μ (some (kI (F_X6_stopAt 149 (k - 1) μ)))) ∧ (¬ (¬ k = 0) → R μ (some (kI (μ 149 7))))) : V_X10_barrels R 43 [(0, kR 0), (3, kI k)] μ := by
  refine vm_step2 mt_X10_barrels ok_X10_barrels [(43, [0, 3])] 1000 ?_
  show r32 k ∧ ((¬ k = 0) → isC 0 10 ∧ isC 149 6 ∧ P_X6_stopAt 149 (k - 1) μ ∧ R μ (some (kI (F_X6_stopAt 149 (k - 1) μ)))) ∧ (¬ (¬ k = 0) → isC 0 10 ∧ isC 149 6 ∧ R μ (some (kI (μ 149 7))))
  exact ⟨H.1, fun hc10 => ⟨c_0, ⟨c_149, (H.2.1 hc10).1, (H.2.1 hc10).2⟩⟩, fun hc10 => ⟨c_0, ⟨c_149, (H.2.2 hc10)⟩⟩⟩
theorem body_X10_barrels {o n a k : Int} {μ : Mem} {R : Mem → Option AV → Prop} (h : P_X10_barrels o n a k μ) (hR : ∀ (μ' : Mem) (r : Int), Q_X10_barrels o n a k μ μ' r → R μ' (some (kI r))) : V_X10_barrels R 0 [(0, kR o), (1, kI n), (2, kI a), (3, kI k)] μ := by
  obtain ⟨rfl, ⟨c, hc⟩, r_n, r_a, r_k⟩ := h
  obtain ⟨pt, ht⟩ := ask_town hc r_n
  have fin : ∀ (m : Mem) (x : Int), Ask μ m → x = onT (wvC μ 1) n (-1) (barrelsT a k) → R m (some (kI x)) := fun m x ha hx => hR m x ⟨ha, hx⟩
  refine vc_X10_barrels_0 ⟨pt, fun t q => ?_⟩
  rcases ht t q with ⟨hneg, hno⟩ | ⟨hpos, hr, hl, hm, ht4, hy⟩
  · exact ⟨fun _ => fin μ _ (Ask_0 μ) (hno _ _).symm, fun q => absurd hneg q⟩
  · have hT := hr.1.1
    have ok := hr.1.2
    have hj := hr.2.2.1
    have hp : 2 ≤ μ t 1 ∧ μ t 1 ≤ 8 := ok.1
    have hpe : tv μ t 0 0 = μ t 1 := rfl
    have hle : tv μ t 1 0 = μ t 2 := rfl
    have a0 := Ask_0 μ
    rw [hy] at fin
    unfold barrelsT at fin
    refine ⟨fun q => absurd q hpos, fun _ => ?_⟩
    have h4 : μ t 4 = cellV (tv μ t) := hr.2.2.2.2.2
    have hcb := cell_bd ok
    have hpb := popc_bd (s := cellV (tv μ t))
    unfold F_J6_bitCount_0f7a4
    rw [h4]
    refine ⟨r_k, fun c => fin μ _ a0 ?_, fun c => ⟨hcb, rr (by omega), fun c2 => ⟨⟨rfl, hr, r_a⟩, fun m4 q4 => vc_X10_barrels_43 ⟨r_k, fun c0 => ?_, fun c0 => ?_⟩⟩, fun c2 => fin μ _ a0 ?_⟩⟩
    · rw [if_pos (Or.inl c)]
    · obtain ⟨⟨h7, hrow, _⟩, hf⟩ := q4
      obtain ⟨s1, s2⟩ := stop_row hrow (k := k - 1) (by have := r_k; unfold r32 at this ⊢; omega)
      refine ⟨s1, fin m4 _ (ask_routes hf) ?_⟩
      rw [if_neg (by omega), if_neg c0, s2]
    · obtain ⟨⟨h7, hrow, _⟩, hf⟩ := q4
      refine fin m4 _ (ask_routes hf) ?_
      rw [if_neg (by omega), if_pos (Classical.byContradiction c0), h7]
    · rw [if_pos (Or.inr (by omega))]
theorem ct_X10_barrels : Ct mX10_barrels 4 98 0 0 (nrmS S_X10_barrels) := by
  refine ct_vm (own := RX10) (by decide +kernel) rfl ?_ ?_
  · intro as μ Q hS
    unfold S_X10_barrels at hS
    split at hS
    · exact Nat.le_of_ble_eq_true rfl
    · exact hS.elim
  · intro as μ R hS
    unfold S_X10_barrels at hS
    split at hS
    · exact body_X10_barrels hS.1 hS.2
    · exact hS.elim
def moreT (a k : Int) (v : TV) : Int := if ¬ (1 ≤ a ∧ a ≤ 20) ∨ ¬ (0 ≤ k ∧ k ≤ 2) ∨ (moreV v a (8 * v 0 0)).2 < 0 then -1 else if k = 0 then (moreV v a (8 * v 0 0)).1 else if k = 1 then (moreV v a (8 * v 0 0)).2 / 8 else (moreV v a (8 * v 0 0)).2 % 8
def P_X10_more (o n a k : Int) (μ : Mem) : Prop := o = 0 ∧ (∃ c, CI c μ) ∧ r32 n ∧ r32 a ∧ r32 k
def Q_X10_more (_ n a k : Int) (μ μ' : Mem) (r : Int) : Prop := Ask μ μ' ∧ r = onT (wvC μ 1) n (-1) (moreT a k)
def S_X10_more : S0t := fun as μ Q => match as with
  | [(2, x0), (0, x1), (0, x2), (0, x3)] => P_X10_more x0 x1 x2 x3 μ ∧ ∀ (μ' : Mem) (r : Int), Q_X10_more x0 x1 x2 x3 μ μ' r → Q μ' (some (kI r))
  | _ => False
theorem mono_X10_more : Mono S_X10_more := by
  intro as μ Q Q' h hS
  unfold S_X10_more at hS ⊢
  split at hS
  · exact ⟨hS.1, fun μ' r q => h _ _ (hS.2 _ _ q)⟩
  · exact hS.elim
def iX10_more : Inf := (kX10_more, fTX10, pTX10, cTX10, lTX10, sTX10, [(110, 0, 1, 9, S_X9_townAt), (201, 0, 2, 6, S_X6_planMore)])
theorem ok_X10_more : infOK iX10_more mX10_more RX10 4 99 := ⟨kkX10_more, fTX10_ok, pTX10_ok _, cTX10_ok, lTX10_ok, sTX10_ok, c_cons ⟨mX9_townAt, 0, 0, ct_X9_townAt, mmX9_townAt, vvX9_townAt, lkX10_110, ⟨by decide, by decide⟩, ⟨_, _, rfl⟩, by decide, mono_X9_townAt⟩ (c_cons ⟨mX6_planMore, 3, 75, ct_X6_planMore, mmX6_planMore, vvX6_planMore, lkX10_201, ⟨by decide, by decide⟩, ⟨_, _, rfl⟩, by decide, mono_X6_planMore⟩ (c_nil))⟩
theorem mt_X10_more : mtOK [] RX10 4 99 := mt_nil
abbrev V_X10_more (R : Mem → Option AV → Prop) (pc : Nat) (lc : List (Nat × AV)) (μ : Mem) : Prop := VM mX10_more RX10 4 99 R pc lc [] μ
set_option maxRecDepth 20000 in
theorem vc_X10_more_0 {R : Mem → Option AV → Prop} {n a k : Int} {μ : Mem} (H : P_X9_townAt 1 n μ ∧ (∀ (rv2 : Int), Q_X9_townAt 1 n μ rv2 → (rv2 < 0 → R μ (some (kI (-1)))) ∧ (¬ rv2 < 0 → r32 a ∧ ((a < (1 : Int)) → R μ (some (kI (-1)))) ∧ (¬ (a < (1 : Int)) → r32 a ∧ (((20 : Int) < a) → R μ (some (kI (-1)))) ∧ (¬ ((20 : Int) < a) → r32 k ∧ ((k < 0) → R μ (some (kI (-1)))) ∧ (¬ (k < 0) → r32 k ∧ ((k ≤ (2 : Int)) → P_X6_planMore 149 rv2 a μ ∧ (∀ (μ4 : Mem) (rv5 : Int), Q_X6_planMore 149 rv2 a μ μ4 rv5 → r32 rv5 ∧ ((¬ rv5 = 0) → r32 k ∧ ((¬ k = 0) → r32 k ∧ ((¬ k = (1 : Int)) → R μ4 (some (kI (μ4 149 11)))) ∧ (¬ (¬ k = (1 : Int)) → R μ4 (some (kI (μ4 149 10))))) ∧ (¬ (¬ k = 0) → R μ4 (some (kI (μ4 149 7))))) ∧ (¬ (¬ rv5 = 0) → R μ4 (some (kI (-1)))))) ∧ (¬ (k ≤ (2 : Int)) → R μ (some (kI (-1)))))))))) : V_X10_more R 0 [(0, kR 0), (1, kI n), (2, kI a), (3, kI k)] μ := by
  refine vm_step2 mt_X10_more ok_X10_more [] 1000 ?_
  show isC 0 10 ∧ isC 1 9 ∧ P_X9_townAt 1 n μ ∧ (∀ (rv2 : Int), Q_X9_townAt 1 n μ rv2 → (rv2 < 0 → R μ (some (kI (-1)))) ∧ (¬ rv2 < 0 → (r32 a ∧ r32 (1 : Int)) ∧ ((a < (1 : Int)) → R μ (some (kI (-1)))) ∧ (¬ (a < (1 : Int)) → (r32 a ∧ r32 (20 : Int)) ∧ (((20 : Int) < a) → R μ (some (kI (-1)))) ∧ (¬ ((20 : Int) < a) → r32 k ∧ ((k < 0) → R μ (some (kI (-1)))) ∧ (¬ (k < 0) → (r32 k ∧ r32 (2 : Int)) ∧ ((k ≤ (2 : Int)) → isC 0 10 ∧ isC 149 6 ∧ P_X6_planMore 149 rv2 a μ ∧ (∀ (μ4 : Mem) (rv5 : Int), Q_X6_planMore 149 rv2 a μ μ4 rv5 → r32 rv5 ∧ ((¬ rv5 = 0) → r32 k ∧ ((¬ k = 0) → (r32 k ∧ r32 (1 : Int)) ∧ ((¬ k = (1 : Int)) → isC 0 10 ∧ isC 149 6 ∧ R μ4 (some (kI (μ4 149 11)))) ∧ (¬ (¬ k = (1 : Int)) → isC 0 10 ∧ isC 149 6 ∧ R μ4 (some (kI (μ4 149 10))))) ∧ (¬ (¬ k = 0) → isC 0 10 ∧ isC 149 6 ∧ R μ4 (some (kI (μ4 149 7))))) ∧ (¬ (¬ rv5 = 0) → R μ4 (some (kI (-1)))))) ∧ (¬ (k ≤ (2 : Int)) → R μ (some (kI (-1)))))))))
  exact ⟨c_0, ⟨c_1, H.1, fun rv2 hq3 => ⟨fun hz14 => ((H.2 rv2 hq3).1 hz14), fun hz14 => have h_rv2 := hq3.2.2 hz14; ⟨⟨((H.2 rv2 hq3).2 hz14).1, by unfold r32; omega⟩, fun hc13 => (((H.2 rv2 hq3).2 hz14).2.1 hc13), fun hc13 => ⟨⟨(((H.2 rv2 hq3).2 hz14).2.2 hc13).1, by unfold r32; omega⟩, fun hc12 => ((((H.2 rv2 hq3).2 hz14).2.2 hc13).2.1 hc12), fun hc12 => ⟨((((H.2 rv2 hq3).2 hz14).2.2 hc13).2.2 hc12).1, fun hc11 => (((((H.2 rv2 hq3).2 hz14).2.2 hc13).2.2 hc12).2.1 hc11), fun hc11 => ⟨⟨(((((H.2 rv2 hq3).2 hz14).2.2 hc13).2.2 hc12).2.2 hc11).1, by unfold r32; omega⟩, fun hc10 => ⟨c_0, ⟨c_149, ((((((H.2 rv2 hq3).2 hz14).2.2 hc13).2.2 hc12).2.2 hc11).2.1 hc10).1, fun μ4 rv5 hq6 => ⟨(((((((H.2 rv2 hq3).2 hz14).2.2 hc13).2.2 hc12).2.2 hc11).2.1 hc10).2 μ4 rv5 hq6).1, fun hc9 => ⟨((((((((H.2 rv2 hq3).2 hz14).2.2 hc13).2.2 hc12).2.2 hc11).2.1 hc10).2 μ4 rv5 hq6).2.1 hc9).1, fun hc8 => ⟨⟨(((((((((H.2 rv2 hq3).2 hz14).2.2 hc13).2.2 hc12).2.2 hc11).2.1 hc10).2 μ4 rv5 hq6).2.1 hc9).2.1 hc8).1, by unfold r32; omega⟩, fun hc7 => ⟨c_0, ⟨c_149, ((((((((((H.2 rv2 hq3).2 hz14).2.2 hc13).2.2 hc12).2.2 hc11).2.1 hc10).2 μ4 rv5 hq6).2.1 hc9).2.1 hc8).2.1 hc7)⟩⟩, fun hc7 => ⟨c_0, ⟨c_149, ((((((((((H.2 rv2 hq3).2 hz14).2.2 hc13).2.2 hc12).2.2 hc11).2.1 hc10).2 μ4 rv5 hq6).2.1 hc9).2.1 hc8).2.2 hc7)⟩⟩⟩, fun hc8 => ⟨c_0, ⟨c_149, (((((((((H.2 rv2 hq3).2 hz14).2.2 hc13).2.2 hc12).2.2 hc11).2.1 hc10).2 μ4 rv5 hq6).2.1 hc9).2.2 hc8)⟩⟩⟩, fun hc9 => ((((((((H.2 rv2 hq3).2 hz14).2.2 hc13).2.2 hc12).2.2 hc11).2.1 hc10).2 μ4 rv5 hq6).2.2 hc9)⟩⟩⟩, fun hc10 => ((((((H.2 rv2 hq3).2 hz14).2.2 hc13).2.2 hc12).2.2 hc11).2.2 hc10)⟩⟩⟩⟩⟩⟩⟩
theorem body_X10_more {o n a k : Int} {μ : Mem} {R : Mem → Option AV → Prop} (h : P_X10_more o n a k μ) (hR : ∀ (μ' : Mem) (r : Int), Q_X10_more o n a k μ μ' r → R μ' (some (kI r))) : V_X10_more R 0 [(0, kR o), (1, kI n), (2, kI a), (3, kI k)] μ := by
  obtain ⟨rfl, ⟨c, hc⟩, r_n, r_a, r_k⟩ := h
  obtain ⟨pt, ht⟩ := ask_town hc r_n
  have fin : ∀ (m : Mem) (x : Int), Ask μ m → x = onT (wvC μ 1) n (-1) (moreT a k) → R m (some (kI x)) := fun m x ha hx => hR m x ⟨ha, hx⟩
  refine vc_X10_more_0 ⟨pt, fun t q => ?_⟩
  rcases ht t q with ⟨hneg, hno⟩ | ⟨hpos, hr, hl, hm, ht4, hy⟩
  · exact ⟨fun _ => fin μ _ (Ask_0 μ) (hno _ _).symm, fun q => absurd hneg q⟩
  · have hT := hr.1.1
    have ok := hr.1.2
    have hj := hr.2.2.1
    have hp : 2 ≤ μ t 1 ∧ μ t 1 ≤ 8 := ok.1
    have hpe : tv μ t 0 0 = μ t 1 := rfl
    have hle : tv μ t 1 0 = μ t 2 := rfl
    have a0 := Ask_0 μ
    rw [hy] at fin
    unfold moreT at fin
    refine ⟨fun q => absurd q hpos, fun _ => ?_⟩
    refine ⟨r_a, fun c => fin μ _ a0 ?_, fun c => ⟨r_a, fun c2 => fin μ _ a0 ?_, fun c2 => ⟨r_k, fun c3 => fin μ _ a0 ?_, fun c3 => ⟨r_k, fun c4 => ⟨⟨rfl, hr, by omega⟩, fun m4 r5 q4 => ?_⟩, fun c4 => fin μ _ a0 ?_⟩⟩⟩⟩
    · rw [if_pos (Or.inl (by omega))]
    · rw [if_pos (Or.inl (by omega))]
    · rw [if_pos (Or.inr (Or.inl (by omega)))]
    · obtain ⟨h5, hM, hf⟩ := q4
      have hA := ask_routes hf
      by_cases cm : (moreV (tv μ t) a (8 * tv μ t 0 0)).2 < 0
      · rw [if_pos cm] at h5
        subst h5
        exact ⟨rr (by omega), fun q => absurd rfl q, fun _ => fin m4 _ hA (by rw [if_pos (Or.inr (Or.inr cm))])⟩
      · rw [if_neg cm] at h5
        subst h5
        have hm := hM.2 (by omega)
        have e : ¬ (¬ (1 ≤ a ∧ a ≤ 20) ∨ ¬ (0 ≤ k ∧ k ≤ 2) ∨ (moreV (tv μ t) a (8 * tv μ t 0 0)).2 < 0) := by omega
        refine ⟨rr (by omega), fun _ => ⟨r_k, fun c5 => ⟨r_k, fun c6 => fin m4 _ hA ?_, fun c6 => fin m4 _ hA ?_⟩, fun c5 => fin m4 _ hA ?_⟩, fun q => absurd (show ¬ (1 : Int) = 0 by omega) q⟩
        · rw [if_neg e, if_neg c5, if_neg c6]; exact hm.2.2
        · rw [if_neg e, if_neg c5, if_pos (Classical.byContradiction c6)]; exact hm.2.1
        · rw [if_neg e, if_pos (Classical.byContradiction c5)]; exact hm.1
    · rw [if_pos (Or.inr (Or.inl (by omega)))]
theorem ct_X10_more : Ct mX10_more 4 99 0 0 (nrmS S_X10_more) := by
  refine ct_vm (own := RX10) (by decide +kernel) rfl ?_ ?_
  · intro as μ Q hS
    unfold S_X10_more at hS
    split at hS
    · exact Nat.le_of_ble_eq_true rfl
    · exact hS.elim
  · intro as μ R hS
    unfold S_X10_more at hS
    split at hS
    · exact body_X10_more hS.1 hS.2
    · exact hS.elim
theorem whereV_bd {v : TV} (ok : TVok v) : -1 ≤ whereV v ∧ whereV v < 8 := by
  have hp := ok.1
  unfold whereV
  split
  · omega
  · have := nat_ind (P := fun n => n ≤ 8 → -1 ≤ (lastP v n).1 ∧ (lastP v n).1 < 8) (fun _ => by
      show -1 ≤ (-1 : Int) ∧ (-1 : Int) < 8
      omega) (fun i i0 ih i8 => by
      rw [lastP_s i0]
      have := ih (by omega)
      show -1 ≤ (if (lastP v i).2 < (if v 4 i ≤ 0 then -1 else weighedV v i) then (i, if v 4 i ≤ 0 then -1 else weighedV v i) else lastP v i).1 ∧ (if (lastP v i).2 < (if v 4 i ≤ 0 then -1 else weighedV v i) then (i, if v 4 i ≤ 0 then -1 else weighedV v i) else lastP v i).1 < 8
      generalize (if v 4 i ≤ 0 then -1 else weighedV v i) = x
      split
      · show -1 ≤ i ∧ i < 8; omega
      · exact this) (v 0 0) (by omega) (by omega)
    exact this
def whereT (k : Int) (v : TV) : Int := if ¬ (0 ≤ k ∧ k ≤ 1) ∨ whereV v = -1 then -1 else if k = 0 then whereV v else weighedV v (whereV v)
def P_X10_where (o n k : Int) (μ : Mem) : Prop := o = 0 ∧ (∃ c, CI c μ) ∧ r32 n ∧ r32 k
def Q_X10_where (_ n k : Int) (μ μ' : Mem) (r : Int) : Prop := Ask μ μ' ∧ r = onT (wvC μ 1) n (-1) (whereT k)
def S_X10_where : S0t := fun as μ Q => match as with
  | [(2, x0), (0, x1), (0, x2)] => P_X10_where x0 x1 x2 μ ∧ ∀ (μ' : Mem) (r : Int), Q_X10_where x0 x1 x2 μ μ' r → Q μ' (some (kI r))
  | _ => False
theorem mono_X10_where : Mono S_X10_where := by
  intro as μ Q Q' h hS
  unfold S_X10_where at hS ⊢
  split at hS
  · exact ⟨hS.1, fun μ' r q => h _ _ (hS.2 _ _ q)⟩
  · exact hS.elim
def iX10_where : Inf := (kX10_where, fTX10, pTX10, cTX10, lTX10, sTX10, [(110, 0, 1, 9, S_X9_townAt), (211, 0, 0, 7, S_X7_cellarFoundLast), (214, 0, 1, 7, S_X7_weighedFound)])
theorem ok_X10_where : infOK iX10_where mX10_where RX10 3 75 := ⟨kkX10_where, fTX10_ok, pTX10_ok _, cTX10_ok, lTX10_ok, sTX10_ok, c_cons ⟨mX9_townAt, 0, 0, ct_X9_townAt, mmX9_townAt, vvX9_townAt, lkX10_110, ⟨by decide, by decide⟩, ⟨_, _, rfl⟩, by decide, mono_X9_townAt⟩ (c_cons ⟨mX7_cellarFoundLast, 2, 50, ct_X7_cellarFoundLast, mmX7_cellarFoundLast, vvX7_cellarFoundLast, lkX10_211, ⟨by decide, by decide⟩, ⟨_, _, rfl⟩, by decide, mono_X7_cellarFoundLast⟩ (c_cons ⟨mX7_weighedFound, 1, 26, ct_X7_weighedFound, mmX7_weighedFound, vvX7_weighedFound, lkX10_214, ⟨by decide, by decide⟩, ⟨_, _, rfl⟩, by decide, mono_X7_weighedFound⟩ (c_nil)))⟩
theorem mt_X10_where : mtOK [] RX10 3 75 := mt_nil
abbrev V_X10_where (R : Mem → Option AV → Prop) (pc : Nat) (lc : List (Nat × AV)) (μ : Mem) : Prop := VM mX10_where RX10 3 75 R pc lc [] μ
set_option maxRecDepth 20000 in
theorem vc_X10_where_0 {R : Mem → Option AV → Prop} {n k : Int} {μ : Mem} (H : P_X9_townAt 1 n μ ∧ (∀ (rv2 : Int), Q_X9_townAt 1 n μ rv2 → (rv2 < 0 → R μ (some (kI (-1)))) ∧ (¬ rv2 < 0 → r32 k ∧ ((k < 0) → R μ (some (kI (-1)))) ∧ (¬ (k < 0) → r32 k ∧ ((k ≤ (1 : Int)) → P_X7_cellarFoundLast rv2 μ ∧ r32 (F_X7_cellarFoundLast rv2 μ) ∧ ((¬ (F_X7_cellarFoundLast rv2 μ) = (-1 : Int)) → r32 k ∧ ((¬ k = 0) → P_X7_weighedFound rv2 (F_X7_cellarFoundLast rv2 μ) μ ∧ R μ (some (kI (F_X7_weighedFound rv2 (F_X7_cellarFoundLast rv2 μ) μ)))) ∧ (¬ (¬ k = 0) → R μ (some (kI (F_X7_cellarFoundLast rv2 μ))))) ∧ (¬ (¬ (F_X7_cellarFoundLast rv2 μ) = (-1 : Int)) → R μ (some (kI (-1))))) ∧ (¬ (k ≤ (1 : Int)) → R μ (some (kI (-1)))))))) : V_X10_where R 0 [(0, kR 0), (1, kI n), (2, kI k)] μ := by
  refine vm_step2 mt_X10_where ok_X10_where [] 1000 ?_
  show isC 0 10 ∧ isC 1 9 ∧ P_X9_townAt 1 n μ ∧ (∀ (rv2 : Int), Q_X9_townAt 1 n μ rv2 → (rv2 < 0 → R μ (some (kI (-1)))) ∧ (¬ rv2 < 0 → r32 k ∧ ((k < 0) → R μ (some (kI (-1)))) ∧ (¬ (k < 0) → (r32 k ∧ r32 (1 : Int)) ∧ ((k ≤ (1 : Int)) → isC rv2 7 ∧ P_X7_cellarFoundLast rv2 μ ∧ (r32 (F_X7_cellarFoundLast rv2 μ) ∧ r32 (-1 : Int)) ∧ ((¬ (F_X7_cellarFoundLast rv2 μ) = (-1 : Int)) → r32 k ∧ ((¬ k = 0) → isC rv2 7 ∧ P_X7_weighedFound rv2 (F_X7_cellarFoundLast rv2 μ) μ ∧ R μ (some (kI (F_X7_weighedFound rv2 (F_X7_cellarFoundLast rv2 μ) μ)))) ∧ (¬ (¬ k = 0) → R μ (some (kI (F_X7_cellarFoundLast rv2 μ))))) ∧ (¬ (¬ (F_X7_cellarFoundLast rv2 μ) = (-1 : Int)) → R μ (some (kI (-1))))) ∧ (¬ (k ≤ (1 : Int)) → R μ (some (kI (-1)))))))
  exact ⟨c_0, ⟨c_1, H.1, fun rv2 hq3 => ⟨fun hz8 => ((H.2 rv2 hq3).1 hz8), fun hz8 => have h_rv2 := hq3.2.2 hz8; ⟨((H.2 rv2 hq3).2 hz8).1, fun hc7 => (((H.2 rv2 hq3).2 hz8).2.1 hc7), fun hc7 => ⟨⟨(((H.2 rv2 hq3).2 hz8).2.2 hc7).1, by unfold r32; omega⟩, fun hc6 => ⟨isT_C h_rv2, ((((H.2 rv2 hq3).2 hz8).2.2 hc7).2.1 hc6).1, ⟨⟨((((H.2 rv2 hq3).2 hz8).2.2 hc7).2.1 hc6).2.1, by unfold r32; omega⟩, fun hc5 => ⟨(((((H.2 rv2 hq3).2 hz8).2.2 hc7).2.1 hc6).2.2.1 hc5).1, fun hc4 => ⟨isT_C h_rv2, ((((((H.2 rv2 hq3).2 hz8).2.2 hc7).2.1 hc6).2.2.1 hc5).2.1 hc4).1, ((((((H.2 rv2 hq3).2 hz8).2.2 hc7).2.1 hc6).2.2.1 hc5).2.1 hc4).2⟩, fun hc4 => ((((((H.2 rv2 hq3).2 hz8).2.2 hc7).2.1 hc6).2.2.1 hc5).2.2 hc4)⟩, fun hc5 => (((((H.2 rv2 hq3).2 hz8).2.2 hc7).2.1 hc6).2.2.2 hc5)⟩⟩, fun hc6 => ((((H.2 rv2 hq3).2 hz8).2.2 hc7).2.2 hc6)⟩⟩⟩⟩⟩
theorem body_X10_where {o n k : Int} {μ : Mem} {R : Mem → Option AV → Prop} (h : P_X10_where o n k μ) (hR : ∀ (μ' : Mem) (r : Int), Q_X10_where o n k μ μ' r → R μ' (some (kI r))) : V_X10_where R 0 [(0, kR o), (1, kI n), (2, kI k)] μ := by
  obtain ⟨rfl, ⟨c, hc⟩, r_n, r_k⟩ := h
  obtain ⟨pt, ht⟩ := ask_town hc r_n
  have fin : ∀ (m : Mem) (x : Int), Ask μ m → x = onT (wvC μ 1) n (-1) (whereT k) → R m (some (kI x)) := fun m x ha hx => hR m x ⟨ha, hx⟩
  refine vc_X10_where_0 ⟨pt, fun t q => ?_⟩
  rcases ht t q with ⟨hneg, hno⟩ | ⟨hpos, hr, hl, hm, ht4, hy⟩
  · exact ⟨fun _ => fin μ _ (Ask_0 μ) (hno _ _).symm, fun q => absurd hneg q⟩
  · have hT := hr.1.1
    have ok := hr.1.2
    have hj := hr.2.2.1
    have hp : 2 ≤ μ t 1 ∧ μ t 1 ≤ 8 := ok.1
    have hpe : tv μ t 0 0 = μ t 1 := rfl
    have hle : tv μ t 1 0 = μ t 2 := rfl
    have a0 := Ask_0 μ
    rw [hy] at fin
    unfold whereT at fin
    refine ⟨fun q => absurd q hpos, fun _ => ?_⟩
    have wb := whereV_bd ok
    unfold F_X7_cellarFoundLast F_X7_weighedFound
    refine ⟨r_k, fun c => fin μ _ a0 ?_, fun c => ⟨r_k, fun c2 => ⟨⟨hr.1, hr.2.1⟩, rr (by omega), fun c3 => ⟨r_k, fun c4 => ⟨⟨hr.1, hr.2.1, rr (by omega)⟩, fin μ _ a0 ?_⟩, fun c4 => fin μ _ a0 ?_⟩, fun c3 => fin μ _ a0 ?_⟩, fun c2 => fin μ _ a0 ?_⟩⟩
    · rw [if_pos (Or.inl (by omega))]
    · rw [if_neg (fun q => q.elim (fun q => q (by omega)) c3), if_neg c4]
    · rw [if_neg (fun q => q.elim (fun q => q (by omega)) c3), if_pos (Classical.byContradiction c4)]
    · rw [if_pos (Or.inr (Classical.byContradiction c3))]
    · rw [if_pos (Or.inl (by omega))]
theorem ct_X10_where : Ct mX10_where 3 75 0 0 (nrmS S_X10_where) := by
  refine ct_vm (own := RX10) (by decide +kernel) rfl ?_ ?_
  · intro as μ Q hS
    unfold S_X10_where at hS
    split at hS
    · exact Nat.le_of_ble_eq_true rfl
    · exact hS.elim
  · intro as μ R hS
    unfold S_X10_where at hS
    split at hS
    · exact body_X10_where hS.1 hS.2
    · exact hS.elim
theorem ask_looks {μ m : Mem} (hf : Same μ m 180 185) : Ask μ m := Ask_far fun z hz => hf z (by omega)
theorem plan_P {μ : Mem} {t : Int} (h : TR μ t) : P_X1_plan 180 t μ := ⟨rfl, h.1, h.2.2.2.2.1⟩
def lookT (k : Int) (v : TV) : Int := if 0 ≤ k ∧ k < cntV v then rowV v k else -1
def P_X10_look (o n k : Int) (μ : Mem) : Prop := o = 0 ∧ (∃ c, CI c μ) ∧ r32 n ∧ r32 k
def Q_X10_look (_ n k : Int) (μ μ' : Mem) (r : Int) : Prop := Ask μ μ' ∧ r = onT (wvC μ 1) n (-1) (lookT k)
def S_X10_look : S0t := fun as μ Q => match as with
  | [(2, x0), (0, x1), (0, x2)] => P_X10_look x0 x1 x2 μ ∧ ∀ (μ' : Mem) (r : Int), Q_X10_look x0 x1 x2 μ μ' r → Q μ' (some (kI r))
  | _ => False
theorem mono_X10_look : Mono S_X10_look := by
  intro as μ Q Q' h hS
  unfold S_X10_look at hS ⊢
  split at hS
  · exact ⟨hS.1, fun μ' r q => h _ _ (hS.2 _ _ q)⟩
  · exact hS.elim
def iX10_look : Inf := (kX10_look, fTX10, pTX10, cTX10, lTX10, sTX10, [(110, 0, 1, 9, S_X9_townAt), (297, 0, 1, 1, S_X1_plan)])
theorem ok_X10_look : infOK iX10_look mX10_look RX10 3 70 := ⟨kkX10_look, fTX10_ok, pTX10_ok _, cTX10_ok, lTX10_ok, sTX10_ok, c_cons ⟨mX9_townAt, 0, 0, ct_X9_townAt, mmX9_townAt, vvX9_townAt, lkX10_110, ⟨by decide, by decide⟩, ⟨_, _, rfl⟩, by decide, mono_X9_townAt⟩ (c_cons ⟨mX1_plan, 2, 45, ct_X1_plan, mmX1_plan, vvX1_plan, lkX10_297, ⟨by decide, by decide⟩, ⟨_, _, rfl⟩, by decide, mono_X1_plan⟩ (c_nil))⟩
theorem mt_X10_look : mtOK [] RX10 3 70 := mt_nil
abbrev V_X10_look (R : Mem → Option AV → Prop) (pc : Nat) (lc : List (Nat × AV)) (μ : Mem) : Prop := VM mX10_look RX10 3 70 R pc lc [] μ
set_option maxRecDepth 20000 in
theorem vc_X10_look_0 {R : Mem → Option AV → Prop} {n k : Int} {μ : Mem} (H : P_X9_townAt 1 n μ ∧ (∀ (rv2 : Int), Q_X9_townAt 1 n μ rv2 → (rv2 < 0 → R μ (some (kI (-1)))) ∧ (¬ rv2 < 0 → P_X1_plan 180 rv2 μ ∧ (∀ (μ4 : Mem), Q_X1_plan 180 rv2 μ μ4 → V_X10_look R 23 [(0, kR 0), (2, kI k)] μ4)))) : V_X10_look R 0 [(0, kR 0), (1, kI n), (2, kI k)] μ := by
  refine vm_step2 mt_X10_look ok_X10_look [(23, [0, 2])] 1000 ?_
  show isC 0 10 ∧ isC 1 9 ∧ P_X9_townAt 1 n μ ∧ (∀ (rv2 : Int), Q_X9_townAt 1 n μ rv2 → (¬ rv2 < 0 → isC 0 10 ∧ isC 180 1 ∧ P_X1_plan 180 rv2 μ ∧ (∀ (μ4 : Mem), Q_X1_plan 180 rv2 μ μ4 → V_X10_look R 23 [(0, kR 0), (2, kI k)] μ4)) ∧ (rv2 < 0 → R μ (some (kI (-1)))))
  exact ⟨c_0, ⟨c_1, H.1, fun rv2 hq3 => ⟨fun hz7 => have h_rv2 := hq3.2.2 hz7; ⟨c_0, ⟨c_180, ((H.2 rv2 hq3).2 hz7).1, fun μ4 hq6 => (((H.2 rv2 hq3).2 hz7).2 μ4 hq6)⟩⟩, fun hz7 => ((H.2 rv2 hq3).1 hz7)⟩⟩⟩
set_option maxRecDepth 20000 in
theorem vc_X10_look_23 {R : Mem → Option AV → Prop} {k : Int} {μ : Mem} (H : r32 k ∧ ((k < 0) → R μ (some (kI (-1)))) ∧ (¬ (k < 0) → r32 k ∧ r32 (μ 180 5) ∧ (((μ 180 5) ≤ k) → R μ (some (kI (-1)))) ∧ (¬ ((μ 180 5) ≤ k) → (0 ≤ k ∧ k < 64) ∧ R μ (some (kI (μ 181 k)))))) : V_X10_look R 23 [(0, kR 0), (2, kI k)] μ := by
  refine vm_step2 mt_X10_look ok_X10_look [(23, [0, 2])] 1000 ?_
  show r32 k ∧ ((k < 0) → R μ (some (kI (-1)))) ∧ (¬ (k < 0) → isC 0 10 ∧ isC 180 1 ∧ (r32 k ∧ r32 (μ 180 5)) ∧ (((μ 180 5) ≤ k) → R μ (some (kI (-1)))) ∧ (¬ ((μ 180 5) ≤ k) → isC 0 10 ∧ isC 180 1 ∧ inA 181 0 k ∧ R μ (some (kI (μ 181 k)))))
  exact ⟨H.1, fun hc9 => (H.2.1 hc9), fun hc9 => ⟨c_0, ⟨c_180, ⟨⟨(H.2.2 hc9).1, (H.2.2 hc9).2.1⟩, fun hc8 => ((H.2.2 hc9).2.2.1 hc8), fun hc8 => ⟨c_0, ⟨c_180, ⟨isArr.in a_181 ((H.2.2 hc9).2.2.2 hc8).1.1 ((H.2.2 hc9).2.2.2 hc8).1.2, ((H.2.2 hc9).2.2.2 hc8).2⟩⟩⟩⟩⟩⟩⟩
theorem body_X10_look {o n k : Int} {μ : Mem} {R : Mem → Option AV → Prop} (h : P_X10_look o n k μ) (hR : ∀ (μ' : Mem) (r : Int), Q_X10_look o n k μ μ' r → R μ' (some (kI r))) : V_X10_look R 0 [(0, kR o), (1, kI n), (2, kI k)] μ := by
  obtain ⟨rfl, ⟨c, hc⟩, r_n, r_k⟩ := h
  obtain ⟨pt, ht⟩ := ask_town hc r_n
  have fin : ∀ (m : Mem) (x : Int), Ask μ m → x = onT (wvC μ 1) n (-1) (lookT k) → R m (some (kI x)) := fun m x ha hx => hR m x ⟨ha, hx⟩
  refine vc_X10_look_0 ⟨pt, fun t q => ?_⟩
  rcases ht t q with ⟨hneg, hno⟩ | ⟨hpos, hr, hl, hm, ht4, hy⟩
  · exact ⟨fun _ => fin μ _ (Ask_0 μ) (hno _ _).symm, fun q => absurd hneg q⟩
  · have hT := hr.1.1
    have ok := hr.1.2
    have hj := hr.2.2.1
    have hp : 2 ≤ μ t 1 ∧ μ t 1 ≤ 8 := ok.1
    have hpe : tv μ t 0 0 = μ t 1 := rfl
    have hle : tv μ t 1 0 = μ t 2 := rfl
    have a0 := Ask_0 μ
    rw [hy] at fin
    unfold lookT at fin
    refine ⟨fun q => absurd q hpos, fun _ => ?_⟩
    refine ⟨plan_P hr, fun m4 q4 => vc_X10_look_23 ?_⟩
    obtain ⟨⟨h5, hrow, hlg⟩, hf⟩ := q4
    have cb := cntV_bd (tv μ t)
    have hA := ask_looks hf
    rw [h5]
    refine ⟨r_k, fun c => fin m4 _ hA ?_, fun c => ⟨r_k, rr (by omega), fun c2 => fin m4 _ hA ?_, fun c2 => ⟨by omega, fin m4 _ hA ?_⟩⟩⟩
    · rw [if_neg (by omega)]
    · rw [if_neg (by omega)]
    · rw [if_pos (by omega)]; exact hrow k (by omega) (by omega)
theorem ct_X10_look : Ct mX10_look 3 70 0 0 (nrmS S_X10_look) := by
  refine ct_vm (own := RX10) (by decide +kernel) rfl ?_ ?_
  · intro as μ Q hS
    unfold S_X10_look at hS
    split at hS
    · exact Nat.le_of_ble_eq_true rfl
    · exact hS.elim
  · intro as μ R hS
    unfold S_X10_look at hS
    split at hS
    · exact body_X10_look hS.1 hS.2
    · exact hS.elim
def leftT (k : Int) (v : TV) : Int := if 0 ≤ k ∧ k ≤ 64 then leftV v (stV v (min k (cntV v))) else -1
def P_X10_left (o n k : Int) (μ : Mem) : Prop := o = 0 ∧ (∃ c, CI c μ) ∧ r32 n ∧ r32 k
def Q_X10_left (_ n k : Int) (μ μ' : Mem) (r : Int) : Prop := Ask μ μ' ∧ r = onT (wvC μ 1) n (-1) (leftT k)
def S_X10_left : S0t := fun as μ Q => match as with
  | [(2, x0), (0, x1), (0, x2)] => P_X10_left x0 x1 x2 μ ∧ ∀ (μ' : Mem) (r : Int), Q_X10_left x0 x1 x2 μ μ' r → Q μ' (some (kL r))
  | _ => False
theorem mono_X10_left : Mono S_X10_left := by
  intro as μ Q Q' h hS
  unfold S_X10_left at hS ⊢
  split at hS
  · exact ⟨hS.1, fun μ' r q => h _ _ (hS.2 _ _ q)⟩
  · exact hS.elim
def iX10_left : Inf := (kX10_left, fTX10, pTX10, cTX10, lTX10, sTX10, [(110, 0, 1, 9, S_X9_townAt), (297, 0, 1, 1, S_X1_plan)])
theorem ok_X10_left : infOK iX10_left mX10_left RX10 3 70 := ⟨kkX10_left, fTX10_ok, pTX10_ok _, cTX10_ok, lTX10_ok, sTX10_ok, c_cons ⟨mX9_townAt, 0, 0, ct_X9_townAt, mmX9_townAt, vvX9_townAt, lkX10_110, ⟨by decide, by decide⟩, ⟨_, _, rfl⟩, by decide, mono_X9_townAt⟩ (c_cons ⟨mX1_plan, 2, 45, ct_X1_plan, mmX1_plan, vvX1_plan, lkX10_297, ⟨by decide, by decide⟩, ⟨_, _, rfl⟩, by decide, mono_X1_plan⟩ (c_nil))⟩
theorem mt_X10_left : mtOK [(309, 0)] RX10 3 70 := mt_cons ⟨MI0, by decide, by decide, ML_X10_309, MS0, MC0⟩ (mt_nil)
abbrev V_X10_left (R : Mem → Option AV → Prop) (pc : Nat) (lc : List (Nat × AV)) (μ : Mem) : Prop := VM mX10_left RX10 3 70 R pc lc [] μ
set_option maxRecDepth 20000 in
theorem vc_X10_left_0 {R : Mem → Option AV → Prop} {n k : Int} {μ : Mem} (H : P_X9_townAt 1 n μ ∧ (∀ (rv2 : Int), Q_X9_townAt 1 n μ rv2 → (rv2 < 0 → R μ (some (kL (-1)))) ∧ (¬ rv2 < 0 → r32 k ∧ ((k < 0) → R μ (some (kL (-1)))) ∧ (¬ (k < 0) → r32 k ∧ ((k ≤ (64 : Int)) → P_X1_plan 180 rv2 μ ∧ (∀ (μ4 : Mem), Q_X1_plan 180 rv2 μ μ4 → V_X10_left R 35 [(0, kR 0), (2, kI k)] μ4)) ∧ (¬ (k ≤ (64 : Int)) → R μ (some (kL (-1)))))))) : V_X10_left R 0 [(0, kR 0), (1, kI n), (2, kI k)] μ := by
  refine vm_step2 mt_X10_left ok_X10_left [(35, [0, 2])] 1000 ?_
  show isC 0 10 ∧ isC 1 9 ∧ P_X9_townAt 1 n μ ∧ (∀ (rv2 : Int), Q_X9_townAt 1 n μ rv2 → (rv2 < 0 → R μ (some (kL (-1)))) ∧ (¬ rv2 < 0 → r32 k ∧ ((k < 0) → R μ (some (kL (-1)))) ∧ (¬ (k < 0) → (r32 k ∧ r32 (64 : Int)) ∧ ((k ≤ (64 : Int)) → isC 0 10 ∧ isC 180 1 ∧ P_X1_plan 180 rv2 μ ∧ (∀ (μ4 : Mem), Q_X1_plan 180 rv2 μ μ4 → V_X10_left R 35 [(0, kR 0), (2, kI k)] μ4)) ∧ (¬ (k ≤ (64 : Int)) → R μ (some (kL (-1)))))))
  exact ⟨c_0, ⟨c_1, H.1, fun rv2 hq3 => ⟨fun hz9 => ((H.2 rv2 hq3).1 hz9), fun hz9 => have h_rv2 := hq3.2.2 hz9; ⟨((H.2 rv2 hq3).2 hz9).1, fun hc8 => (((H.2 rv2 hq3).2 hz9).2.1 hc8), fun hc8 => ⟨⟨(((H.2 rv2 hq3).2 hz9).2.2 hc8).1, by unfold r32; omega⟩, fun hc7 => ⟨c_0, ⟨c_180, ((((H.2 rv2 hq3).2 hz9).2.2 hc8).2.1 hc7).1, fun μ4 hq6 => (((((H.2 rv2 hq3).2 hz9).2.2 hc8).2.1 hc7).2 μ4 hq6)⟩⟩, fun hc7 => ((((H.2 rv2 hq3).2 hz9).2.2 hc8).2.2 hc7)⟩⟩⟩⟩⟩
set_option maxRecDepth 20000 in
theorem vc_X10_left_35 {R : Mem → Option AV → Prop} {k : Int} {μ : Mem} (H : r32 k ∧ r32 (μ 180 5) ∧ (0 ≤ (min k (μ 180 5)) ∧ (min k (μ 180 5)) < 65) ∧ R μ (some (kL (μ 182 (min k (μ 180 5)))))) : V_X10_left R 35 [(0, kR 0), (2, kI k)] μ := by
  refine vm_step2 mt_X10_left ok_X10_left [(35, [0, 2])] 1000 ?_
  show isC 0 10 ∧ isC 180 1 ∧ isC 0 10 ∧ isC 180 1 ∧ (r32 k ∧ r32 (μ 180 5)) ∧ inA 182 1 (min k (μ 180 5)) ∧ R μ (some (kL (μ 182 (min k (μ 180 5)))))
  exact ⟨c_0, ⟨c_180, ⟨c_0, ⟨c_180, ⟨⟨H.1, H.2.1⟩, ⟨isArr.in a_182 H.2.2.1.1 H.2.2.1.2, H.2.2.2⟩⟩⟩⟩⟩⟩
theorem body_X10_left {o n k : Int} {μ : Mem} {R : Mem → Option AV → Prop} (h : P_X10_left o n k μ) (hR : ∀ (μ' : Mem) (r : Int), Q_X10_left o n k μ μ' r → R μ' (some (kL r))) : V_X10_left R 0 [(0, kR o), (1, kI n), (2, kI k)] μ := by
  obtain ⟨rfl, ⟨c, hc⟩, r_n, r_k⟩ := h
  obtain ⟨pt, ht⟩ := ask_town hc r_n
  have fin : ∀ (m : Mem) (x : Int), Ask μ m → x = onT (wvC μ 1) n (-1) (leftT k) → R m (some (kL x)) := fun m x ha hx => hR m x ⟨ha, hx⟩
  refine vc_X10_left_0 ⟨pt, fun t q => ?_⟩
  rcases ht t q with ⟨hneg, hno⟩ | ⟨hpos, hr, hl, hm, ht4, hy⟩
  · exact ⟨fun _ => fin μ _ (Ask_0 μ) (hno _ _).symm, fun q => absurd hneg q⟩
  · have hT := hr.1.1
    have ok := hr.1.2
    have hj := hr.2.2.1
    have hp : 2 ≤ μ t 1 ∧ μ t 1 ≤ 8 := ok.1
    have hpe : tv μ t 0 0 = μ t 1 := rfl
    have hle : tv μ t 1 0 = μ t 2 := rfl
    have a0 := Ask_0 μ
    rw [hy] at fin
    unfold leftT at fin
    refine ⟨fun q => absurd q hpos, fun _ => ?_⟩
    refine ⟨r_k, fun c => fin μ _ a0 ?_, fun c => ⟨r_k, fun c2 => ⟨plan_P hr, fun m4 q4 => vc_X10_left_35 ?_⟩, fun c2 => fin μ _ a0 ?_⟩⟩
    · rw [if_neg (by omega)]
    · obtain ⟨⟨h5, hrow, hlg⟩, hf⟩ := q4
      have cb := cntV_bd (tv μ t)
      have hA := ask_looks hf
      rw [h5]
      refine ⟨r_k, rr (by omega), by omega, fin m4 _ hA ?_⟩
      rw [if_pos (by omega)]
      exact (hlg _ (by omega) (by omega)).1
    · rw [if_neg (by omega)]
theorem ct_X10_left : Ct mX10_left 3 70 0 0 (nrmS S_X10_left) := by
  refine ct_vm (own := RX10) (by decide +kernel) rfl ?_ ?_
  · intro as μ Q hS
    unfold S_X10_left at hS
    split at hS
    · exact Nat.le_of_ble_eq_true rfl
    · exact hS.elim
  · intro as μ R hS
    unfold S_X10_left at hS
    split at hS
    · exact body_X10_left hS.1 hS.2
    · exact hS.elim
def gainT (k : Int) (v : TV) : Int := if 0 ≤ k ∧ k ≤ 64 then gainV v (min k (cntV v)) else -4000000000000000000
def P_X10_gain (o n k : Int) (μ : Mem) : Prop := o = 0 ∧ (∃ c, CI c μ) ∧ r32 n ∧ r32 k
def Q_X10_gain (_ n k : Int) (μ μ' : Mem) (r : Int) : Prop := Ask μ μ' ∧ r = onT (wvC μ 1) n (-4000000000000000000) (gainT k)
def S_X10_gain : S0t := fun as μ Q => match as with
  | [(2, x0), (0, x1), (0, x2)] => P_X10_gain x0 x1 x2 μ ∧ ∀ (μ' : Mem) (r : Int), Q_X10_gain x0 x1 x2 μ μ' r → Q μ' (some (kL r))
  | _ => False
theorem mono_X10_gain : Mono S_X10_gain := by
  intro as μ Q Q' h hS
  unfold S_X10_gain at hS ⊢
  split at hS
  · exact ⟨hS.1, fun μ' r q => h _ _ (hS.2 _ _ q)⟩
  · exact hS.elim
def iX10_gain : Inf := (kX10_gain, fTX10, pTX10, cTX10, lTX10, sTX10, [(110, 0, 1, 9, S_X9_townAt), (297, 0, 1, 1, S_X1_plan)])
theorem ok_X10_gain : infOK iX10_gain mX10_gain RX10 3 70 := ⟨kkX10_gain, fTX10_ok, pTX10_ok _, cTX10_ok, lTX10_ok, sTX10_ok, c_cons ⟨mX9_townAt, 0, 0, ct_X9_townAt, mmX9_townAt, vvX9_townAt, lkX10_110, ⟨by decide, by decide⟩, ⟨_, _, rfl⟩, by decide, mono_X9_townAt⟩ (c_cons ⟨mX1_plan, 2, 45, ct_X1_plan, mmX1_plan, vvX1_plan, lkX10_297, ⟨by decide, by decide⟩, ⟨_, _, rfl⟩, by decide, mono_X1_plan⟩ (c_nil))⟩
theorem mt_X10_gain : mtOK [(309, 0)] RX10 3 70 := mt_cons ⟨MI0, by decide, by decide, ML_X10_309, MS0, MC0⟩ (mt_nil)
abbrev V_X10_gain (R : Mem → Option AV → Prop) (pc : Nat) (lc : List (Nat × AV)) (μ : Mem) : Prop := VM mX10_gain RX10 3 70 R pc lc [] μ
set_option maxRecDepth 20000 in
theorem vc_X10_gain_0 {R : Mem → Option AV → Prop} {n k : Int} {μ : Mem} (H : P_X9_townAt 1 n μ ∧ (∀ (rv2 : Int), Q_X9_townAt 1 n μ rv2 → (rv2 < 0 → R μ (some (kL (-4000000000000000000)))) ∧ (¬ rv2 < 0 → r32 k ∧ ((k < 0) → R μ (some (kL (-4000000000000000000)))) ∧ (¬ (k < 0) → r32 k ∧ ((k ≤ (64 : Int)) → P_X1_plan 180 rv2 μ ∧ (∀ (μ4 : Mem), Q_X1_plan 180 rv2 μ μ4 → V_X10_gain R 35 [(0, kR 0), (2, kI k)] μ4)) ∧ (¬ (k ≤ (64 : Int)) → R μ (some (kL (-4000000000000000000)))))))) : V_X10_gain R 0 [(0, kR 0), (1, kI n), (2, kI k)] μ := by
  refine vm_step2 mt_X10_gain ok_X10_gain [(35, [0, 2])] 1000 ?_
  show isC 0 10 ∧ isC 1 9 ∧ P_X9_townAt 1 n μ ∧ (∀ (rv2 : Int), Q_X9_townAt 1 n μ rv2 → (rv2 < 0 → R μ (some (kL (-4000000000000000000)))) ∧ (¬ rv2 < 0 → r32 k ∧ ((k < 0) → R μ (some (kL (-4000000000000000000)))) ∧ (¬ (k < 0) → (r32 k ∧ r32 (64 : Int)) ∧ ((k ≤ (64 : Int)) → isC 0 10 ∧ isC 180 1 ∧ P_X1_plan 180 rv2 μ ∧ (∀ (μ4 : Mem), Q_X1_plan 180 rv2 μ μ4 → V_X10_gain R 35 [(0, kR 0), (2, kI k)] μ4)) ∧ (¬ (k ≤ (64 : Int)) → R μ (some (kL (-4000000000000000000)))))))
  exact ⟨c_0, ⟨c_1, H.1, fun rv2 hq3 => ⟨fun hz9 => ((H.2 rv2 hq3).1 hz9), fun hz9 => have h_rv2 := hq3.2.2 hz9; ⟨((H.2 rv2 hq3).2 hz9).1, fun hc8 => (((H.2 rv2 hq3).2 hz9).2.1 hc8), fun hc8 => ⟨⟨(((H.2 rv2 hq3).2 hz9).2.2 hc8).1, by unfold r32; omega⟩, fun hc7 => ⟨c_0, ⟨c_180, ((((H.2 rv2 hq3).2 hz9).2.2 hc8).2.1 hc7).1, fun μ4 hq6 => (((((H.2 rv2 hq3).2 hz9).2.2 hc8).2.1 hc7).2 μ4 hq6)⟩⟩, fun hc7 => ((((H.2 rv2 hq3).2 hz9).2.2 hc8).2.2 hc7)⟩⟩⟩⟩⟩
set_option maxRecDepth 20000 in
theorem vc_X10_gain_35 {R : Mem → Option AV → Prop} {k : Int} {μ : Mem} (H : r32 k ∧ r32 (μ 180 5) ∧ (0 ≤ (min k (μ 180 5)) ∧ (min k (μ 180 5)) < 65) ∧ R μ (some (kL (μ 183 (min k (μ 180 5)))))) : V_X10_gain R 35 [(0, kR 0), (2, kI k)] μ := by
  refine vm_step2 mt_X10_gain ok_X10_gain [(35, [0, 2])] 1000 ?_
  show isC 0 10 ∧ isC 180 1 ∧ isC 0 10 ∧ isC 180 1 ∧ (r32 k ∧ r32 (μ 180 5)) ∧ inA 183 1 (min k (μ 180 5)) ∧ R μ (some (kL (μ 183 (min k (μ 180 5)))))
  exact ⟨c_0, ⟨c_180, ⟨c_0, ⟨c_180, ⟨⟨H.1, H.2.1⟩, ⟨isArr.in a_183 H.2.2.1.1 H.2.2.1.2, H.2.2.2⟩⟩⟩⟩⟩⟩
theorem body_X10_gain {o n k : Int} {μ : Mem} {R : Mem → Option AV → Prop} (h : P_X10_gain o n k μ) (hR : ∀ (μ' : Mem) (r : Int), Q_X10_gain o n k μ μ' r → R μ' (some (kL r))) : V_X10_gain R 0 [(0, kR o), (1, kI n), (2, kI k)] μ := by
  obtain ⟨rfl, ⟨c, hc⟩, r_n, r_k⟩ := h
  obtain ⟨pt, ht⟩ := ask_town hc r_n
  have fin : ∀ (m : Mem) (x : Int), Ask μ m → x = onT (wvC μ 1) n (-4000000000000000000) (gainT k) → R m (some (kL x)) := fun m x ha hx => hR m x ⟨ha, hx⟩
  refine vc_X10_gain_0 ⟨pt, fun t q => ?_⟩
  rcases ht t q with ⟨hneg, hno⟩ | ⟨hpos, hr, hl, hm, ht4, hy⟩
  · exact ⟨fun _ => fin μ _ (Ask_0 μ) (hno _ _).symm, fun q => absurd hneg q⟩
  · have hT := hr.1.1
    have ok := hr.1.2
    have hj := hr.2.2.1
    have hp : 2 ≤ μ t 1 ∧ μ t 1 ≤ 8 := ok.1
    have hpe : tv μ t 0 0 = μ t 1 := rfl
    have hle : tv μ t 1 0 = μ t 2 := rfl
    have a0 := Ask_0 μ
    rw [hy] at fin
    unfold gainT at fin
    refine ⟨fun q => absurd q hpos, fun _ => ?_⟩
    refine ⟨r_k, fun c => fin μ _ a0 ?_, fun c => ⟨r_k, fun c2 => ⟨plan_P hr, fun m4 q4 => vc_X10_gain_35 ?_⟩, fun c2 => fin μ _ a0 ?_⟩⟩
    · rw [if_neg (by omega)]
    · obtain ⟨⟨h5, hrow, hlg⟩, hf⟩ := q4
      have cb := cntV_bd (tv μ t)
      have hA := ask_looks hf
      rw [h5]
      refine ⟨r_k, rr (by omega), by omega, fin m4 _ hA ?_⟩
      rw [if_pos (by omega)]
      exact (hlg _ (by omega) (by omega)).2
    · rw [if_neg (by omega)]
theorem ct_X10_gain : Ct mX10_gain 3 70 0 0 (nrmS S_X10_gain) := by
  refine ct_vm (own := RX10) (by decide +kernel) rfl ?_ ?_
  · intro as μ Q hS
    unfold S_X10_gain at hS
    split at hS
    · exact Nat.le_of_ble_eq_true rfl
    · exact hS.elim
  · intro as μ R hS
    unfold S_X10_gain at hS
    split at hS
    · exact body_X10_gain hS.1 hS.2
    · exact hS.elim
theorem town_TG {c n t : Int} {Mk : Int → TV} {μ : Mem} (hq : Q_X9_townAt 1 n μ t) (hpos : ¬ t < 0) (hw : WI c Mk μ 1) : TG Mk μ t := by
  by_cases q : 0 ≤ n ∧ n < μ 1 5
  · have e := hq.1 q
    subst e
    exact hw.2.2.2.2.2 n q.1 q.2
  · have := hq.2.1 q; omega
theorem chase_P {c n t k : Int} {μ : Mem} (h : CI c μ) (hq : Q_X9_townAt 1 n μ t) (hpos : ¬ t < 0) (hr : TR μ t) (hk : 1 ≤ k ∧ k ≤ 5) : P_X2_plan 186 t k μ := by
  obtain ⟨Mk, hc, hm, hw, hb, hi, g1, g2, n1, o1⟩ := h
  have tg := town_TG hq hpos hw
  refine ⟨rfl, hr.1, hr.2.2.2.1, hk, rr (by have := tg.2.2.1; omega), rr (by have := n1.1; omega), rr (by have := n1.2.1; omega), fun e1 e2 => ?_⟩
  have hn := n1.2.2 (by omega)
  rw [e1, e2] at hn
  exact ChaR_same tg.2.2.2.symm hn
theorem chase_ask {n t k : Int} {μ m : Mem} (hq : Q_X9_townAt 1 n μ t) (hpos : ¬ t < 0) (hk : 1 ≤ k ∧ k ≤ 5) (h : Q_X2_plan 186 t k μ m) : Ask μ m := by
  obtain ⟨h9, h10, hch, hf⟩ := h
  refine ⟨fun c hc => ?_, fun z hz => hf z (by omega)⟩
  have hc2 := hc
  obtain ⟨Mk, _, _, _, _, _, g1, g2, _, _⟩ := hc2
  refine CI_keep hc (fun z hz => hf z (by omega)) (GInv_frame g1 (fun z z0 z1 => hf z (by omega))) (GInv_frame g2 (fun z z0 z1 => hf z (by omega))) (fun Mk hw q => ?_) (fun Mk _ q => OC_frame q (hf 0 (by omega)) (hf 178 (by omega)))
  have tg := town_TG hq hpos hw
  unfold NC
  rw [h9, h10, hf 0 (by omega)]
  exact ⟨by have := tg.2.2.1; omega, by omega, fun _ => ChaR_same tg.2.2.2 hch⟩
def chaseT (a k : Int) (v : TV) : Int := if (1 ≤ a ∧ a ≤ 5) ∧ 0 ≤ k ∧ k < a then dg (v 0 0) a.toNat (chaV v a).2 k else -1
def P_X10_chase (o n a k : Int) (μ : Mem) : Prop := o = 0 ∧ (∃ c, CI c μ) ∧ r32 n ∧ r32 a ∧ r32 k
def Q_X10_chase (_ n a k : Int) (μ μ' : Mem) (r : Int) : Prop := Ask μ μ' ∧ r = onT (wvC μ 1) n (-1) (chaseT a k)
def S_X10_chase : S0t := fun as μ Q => match as with
  | [(2, x0), (0, x1), (0, x2), (0, x3)] => P_X10_chase x0 x1 x2 x3 μ ∧ ∀ (μ' : Mem) (r : Int), Q_X10_chase x0 x1 x2 x3 μ μ' r → Q μ' (some (kI r))
  | _ => False
theorem mono_X10_chase : Mono S_X10_chase := by
  intro as μ Q Q' h hS
  unfold S_X10_chase at hS ⊢
  split at hS
  · exact ⟨hS.1, fun μ' r q => h _ _ (hS.2 _ _ q)⟩
  · exact hS.elim
def iX10_chase : Inf := (kX10_chase, fTX10, pTX10, cTX10, lTX10, sTX10, [(110, 0, 1, 9, S_X9_townAt), (322, 0, 2, 2, S_X2_plan)])
theorem ok_X10_chase : infOK iX10_chase mX10_chase RX10 4 110 := ⟨kkX10_chase, fTX10_ok, pTX10_ok _, cTX10_ok, lTX10_ok, sTX10_ok, c_cons ⟨mX9_townAt, 0, 0, ct_X9_townAt, mmX9_townAt, vvX9_townAt, lkX10_110, ⟨by decide, by decide⟩, ⟨_, _, rfl⟩, by decide, mono_X9_townAt⟩ (c_cons ⟨mX2_plan, 3, 85, ct_X2_plan, mmX2_plan, vvX2_plan, lkX10_322, ⟨by decide, by decide⟩, ⟨_, _, rfl⟩, by decide, mono_X2_plan⟩ (c_nil))⟩
theorem mt_X10_chase : mtOK [] RX10 4 110 := mt_nil
abbrev V_X10_chase (R : Mem → Option AV → Prop) (pc : Nat) (lc : List (Nat × AV)) (μ : Mem) : Prop := VM mX10_chase RX10 4 110 R pc lc [] μ
set_option maxRecDepth 20000 in
theorem vc_X10_chase_0 {R : Mem → Option AV → Prop} {n a k : Int} {μ : Mem} (H : P_X9_townAt 1 n μ ∧ (∀ (rv2 : Int), Q_X9_townAt 1 n μ rv2 → (rv2 < 0 → R μ (some (kI (-1)))) ∧ (¬ rv2 < 0 → r32 a ∧ ((a < (1 : Int)) → R μ (some (kI (-1)))) ∧ (¬ (a < (1 : Int)) → r32 a ∧ (((5 : Int) < a) → R μ (some (kI (-1)))) ∧ (¬ ((5 : Int) < a) → r32 k ∧ ((k < 0) → R μ (some (kI (-1)))) ∧ (¬ (k < 0) → r32 k ∧ r32 a ∧ ((k < a) → P_X2_plan 186 rv2 a μ ∧ (∀ (μ4 : Mem), Q_X2_plan 186 rv2 a μ μ4 → V_X10_chase R 46 [(0, kR 0), (3, kI k)] μ4)) ∧ (¬ (k < a) → R μ (some (kI (-1)))))))))) : V_X10_chase R 0 [(0, kR 0), (1, kI n), (2, kI a), (3, kI k)] μ := by
  refine vm_step2 mt_X10_chase ok_X10_chase [(46, [0, 3])] 1000 ?_
  show isC 0 10 ∧ isC 1 9 ∧ P_X9_townAt 1 n μ ∧ (∀ (rv2 : Int), Q_X9_townAt 1 n μ rv2 → (rv2 < 0 → R μ (some (kI (-1)))) ∧ (¬ rv2 < 0 → (r32 a ∧ r32 (1 : Int)) ∧ ((a < (1 : Int)) → R μ (some (kI (-1)))) ∧ (¬ (a < (1 : Int)) → (r32 a ∧ r32 (5 : Int)) ∧ (((5 : Int) < a) → R μ (some (kI (-1)))) ∧ (¬ ((5 : Int) < a) → r32 k ∧ ((k < 0) → R μ (some (kI (-1)))) ∧ (¬ (k < 0) → (r32 k ∧ r32 a) ∧ ((k < a) → isC 0 10 ∧ isC 186 2 ∧ P_X2_plan 186 rv2 a μ ∧ (∀ (μ4 : Mem), Q_X2_plan 186 rv2 a μ μ4 → V_X10_chase R 46 [(0, kR 0), (3, kI k)] μ4)) ∧ (¬ (k < a) → R μ (some (kI (-1)))))))))
  exact ⟨c_0, ⟨c_1, H.1, fun rv2 hq3 => ⟨fun hz11 => ((H.2 rv2 hq3).1 hz11), fun hz11 => have h_rv2 := hq3.2.2 hz11; ⟨⟨((H.2 rv2 hq3).2 hz11).1, by unfold r32; omega⟩, fun hc10 => (((H.2 rv2 hq3).2 hz11).2.1 hc10), fun hc10 => ⟨⟨(((H.2 rv2 hq3).2 hz11).2.2 hc10).1, by unfold r32; omega⟩, fun hc9 => ((((H.2 rv2 hq3).2 hz11).2.2 hc10).2.1 hc9), fun hc9 => ⟨((((H.2 rv2 hq3).2 hz11).2.2 hc10).2.2 hc9).1, fun hc8 => (((((H.2 rv2 hq3).2 hz11).2.2 hc10).2.2 hc9).2.1 hc8), fun hc8 => ⟨⟨(((((H.2 rv2 hq3).2 hz11).2.2 hc10).2.2 hc9).2.2 hc8).1, (((((H.2 rv2 hq3).2 hz11).2.2 hc10).2.2 hc9).2.2 hc8).2.1⟩, fun hc7 => ⟨c_0, ⟨c_186, ((((((H.2 rv2 hq3).2 hz11).2.2 hc10).2.2 hc9).2.2 hc8).2.2.1 hc7).1, fun μ4 hq6 => (((((((H.2 rv2 hq3).2 hz11).2.2 hc10).2.2 hc9).2.2 hc8).2.2.1 hc7).2 μ4 hq6)⟩⟩, fun hc7 => ((((((H.2 rv2 hq3).2 hz11).2.2 hc10).2.2 hc9).2.2 hc8).2.2.2 hc7)⟩⟩⟩⟩⟩⟩⟩
set_option maxRecDepth 20000 in
theorem vc_X10_chase_46 {R : Mem → Option AV → Prop} {k : Int} {μ : Mem} (H : (0 ≤ k ∧ k < 5) ∧ R μ (some (kI (μ 192 k)))) : V_X10_chase R 46 [(0, kR 0), (3, kI k)] μ := by
  refine vm_step2 mt_X10_chase ok_X10_chase [(46, [0, 3])] 1000 ?_
  show isC 0 10 ∧ isC 186 2 ∧ inA 192 0 k ∧ R μ (some (kI (μ 192 k)))
  exact ⟨c_0, ⟨c_186, ⟨isArr.in a_192 H.1.1 H.1.2, H.2⟩⟩⟩
theorem body_X10_chase {o n a k : Int} {μ : Mem} {R : Mem → Option AV → Prop} (h : P_X10_chase o n a k μ) (hR : ∀ (μ' : Mem) (r : Int), Q_X10_chase o n a k μ μ' r → R μ' (some (kI r))) : V_X10_chase R 0 [(0, kR o), (1, kI n), (2, kI a), (3, kI k)] μ := by
  obtain ⟨rfl, ⟨c, hc⟩, r_n, r_a, r_k⟩ := h
  obtain ⟨pt, ht⟩ := ask_town hc r_n
  have fin : ∀ (m : Mem) (x : Int), Ask μ m → x = onT (wvC μ 1) n (-1) (chaseT a k) → R m (some (kI x)) := fun m x ha hx => hR m x ⟨ha, hx⟩
  refine vc_X10_chase_0 ⟨pt, fun t q => ?_⟩
  rcases ht t q with ⟨hneg, hno⟩ | ⟨hpos, hr, hl, hm, ht4, hy⟩
  · exact ⟨fun _ => fin μ _ (Ask_0 μ) (hno _ _).symm, fun q => absurd hneg q⟩
  · have hT := hr.1.1
    have ok := hr.1.2
    have hj := hr.2.2.1
    have hp : 2 ≤ μ t 1 ∧ μ t 1 ≤ 8 := ok.1
    have hpe : tv μ t 0 0 = μ t 1 := rfl
    have hle : tv μ t 1 0 = μ t 2 := rfl
    have a0 := Ask_0 μ
    rw [hy] at fin
    unfold chaseT at fin
    refine ⟨fun q => absurd q hpos, fun _ => ?_⟩
    refine ⟨r_a, fun c1 => fin μ _ a0 ?_, fun c1 => ⟨r_a, fun c2 => fin μ _ a0 ?_, fun c2 => ⟨r_k, fun c3 => fin μ _ a0 ?_, fun c3 => ⟨r_k, r_a, fun c4 => ⟨chase_P hc q hpos hr (by omega), fun m4 q4 => vc_X10_chase_46 ⟨by omega, fin m4 _ (chase_ask q hpos (by omega) q4) ?_⟩⟩, fun c4 => fin μ _ a0 ?_⟩⟩⟩⟩
    · rw [if_neg (by omega)]
    · rw [if_neg (by omega)]
    · rw [if_neg (by omega)]
    · rw [if_pos (by omega)]; exact q4.2.2.1.2 k (by omega) c4
    · rw [if_neg (by omega)]
theorem ct_X10_chase : Ct mX10_chase 4 110 0 0 (nrmS S_X10_chase) := by
  refine ct_vm (own := RX10) (by decide +kernel) rfl ?_ ?_
  · intro as μ Q hS
    unfold S_X10_chase at hS
    split at hS
    · exact Nat.le_of_ble_eq_true rfl
    · exact hS.elim
  · intro as μ R hS
    unfold S_X10_chase at hS
    split at hS
    · exact body_X10_chase hS.1 hS.2
    · exact hS.elim
def caughtT (a : Int) (v : TV) : Int := if 1 ≤ a ∧ a ≤ 5 then (chaV v a).1 else -1
def P_X10_caught (o n a : Int) (μ : Mem) : Prop := o = 0 ∧ (∃ c, CI c μ) ∧ r32 n ∧ r32 a
def Q_X10_caught (_ n a : Int) (μ μ' : Mem) (r : Int) : Prop := Ask μ μ' ∧ r = onT (wvC μ 1) n (-1) (caughtT a)
def S_X10_caught : S0t := fun as μ Q => match as with
  | [(2, x0), (0, x1), (0, x2)] => P_X10_caught x0 x1 x2 μ ∧ ∀ (μ' : Mem) (r : Int), Q_X10_caught x0 x1 x2 μ μ' r → Q μ' (some (kL r))
  | _ => False
theorem mono_X10_caught : Mono S_X10_caught := by
  intro as μ Q Q' h hS
  unfold S_X10_caught at hS ⊢
  split at hS
  · exact ⟨hS.1, fun μ' r q => h _ _ (hS.2 _ _ q)⟩
  · exact hS.elim
def iX10_caught : Inf := (kX10_caught, fTX10, pTX10, cTX10, lTX10, sTX10, [(110, 0, 1, 9, S_X9_townAt), (322, 0, 2, 2, S_X2_plan)])
theorem ok_X10_caught : infOK iX10_caught mX10_caught RX10 4 110 := ⟨kkX10_caught, fTX10_ok, pTX10_ok _, cTX10_ok, lTX10_ok, sTX10_ok, c_cons ⟨mX9_townAt, 0, 0, ct_X9_townAt, mmX9_townAt, vvX9_townAt, lkX10_110, ⟨by decide, by decide⟩, ⟨_, _, rfl⟩, by decide, mono_X9_townAt⟩ (c_cons ⟨mX2_plan, 3, 85, ct_X2_plan, mmX2_plan, vvX2_plan, lkX10_322, ⟨by decide, by decide⟩, ⟨_, _, rfl⟩, by decide, mono_X2_plan⟩ (c_nil))⟩
theorem mt_X10_caught : mtOK [] RX10 4 110 := mt_nil
abbrev V_X10_caught (R : Mem → Option AV → Prop) (pc : Nat) (lc : List (Nat × AV)) (μ : Mem) : Prop := VM mX10_caught RX10 4 110 R pc lc [] μ
set_option maxRecDepth 20000 in
theorem vc_X10_caught_0 {R : Mem → Option AV → Prop} {n a : Int} {μ : Mem} (H : P_X9_townAt 1 n μ ∧ (∀ (rv2 : Int), Q_X9_townAt 1 n μ rv2 → (rv2 < 0 → R μ (some (kL (-1)))) ∧ (¬ rv2 < 0 → r32 a ∧ ((a < (1 : Int)) → R μ (some (kL (-1)))) ∧ (¬ (a < (1 : Int)) → r32 a ∧ ((a ≤ (5 : Int)) → P_X2_plan 186 rv2 a μ ∧ (∀ (μ4 : Mem), Q_X2_plan 186 rv2 a μ μ4 → V_X10_caught R 36 [(0, kR 0)] μ4)) ∧ (¬ (a ≤ (5 : Int)) → R μ (some (kL (-1)))))))) : V_X10_caught R 0 [(0, kR 0), (1, kI n), (2, kI a)] μ := by
  refine vm_step2 mt_X10_caught ok_X10_caught [(36, [0])] 1000 ?_
  show isC 0 10 ∧ isC 1 9 ∧ P_X9_townAt 1 n μ ∧ (∀ (rv2 : Int), Q_X9_townAt 1 n μ rv2 → (rv2 < 0 → R μ (some (kL (-1)))) ∧ (¬ rv2 < 0 → (r32 a ∧ r32 (1 : Int)) ∧ ((a < (1 : Int)) → R μ (some (kL (-1)))) ∧ (¬ (a < (1 : Int)) → (r32 a ∧ r32 (5 : Int)) ∧ ((a ≤ (5 : Int)) → isC 0 10 ∧ isC 186 2 ∧ P_X2_plan 186 rv2 a μ ∧ (∀ (μ4 : Mem), Q_X2_plan 186 rv2 a μ μ4 → V_X10_caught R 36 [(0, kR 0)] μ4)) ∧ (¬ (a ≤ (5 : Int)) → R μ (some (kL (-1)))))))
  exact ⟨c_0, ⟨c_1, H.1, fun rv2 hq3 => ⟨fun hz9 => ((H.2 rv2 hq3).1 hz9), fun hz9 => have h_rv2 := hq3.2.2 hz9; ⟨⟨((H.2 rv2 hq3).2 hz9).1, by unfold r32; omega⟩, fun hc8 => (((H.2 rv2 hq3).2 hz9).2.1 hc8), fun hc8 => ⟨⟨(((H.2 rv2 hq3).2 hz9).2.2 hc8).1, by unfold r32; omega⟩, fun hc7 => ⟨c_0, ⟨c_186, ((((H.2 rv2 hq3).2 hz9).2.2 hc8).2.1 hc7).1, fun μ4 hq6 => (((((H.2 rv2 hq3).2 hz9).2.2 hc8).2.1 hc7).2 μ4 hq6)⟩⟩, fun hc7 => ((((H.2 rv2 hq3).2 hz9).2.2 hc8).2.2 hc7)⟩⟩⟩⟩⟩
set_option maxRecDepth 20000 in
theorem vc_X10_caught_36 {R : Mem → Option AV → Prop} {μ : Mem} (H : R μ (some (kL (μ 186 8)))) : V_X10_caught R 36 [(0, kR 0)] μ := by
  refine vm_step2 mt_X10_caught ok_X10_caught [(36, [0])] 1000 ?_
  show isC 0 10 ∧ isC 186 2 ∧ R μ (some (kL (μ 186 8)))
  exact ⟨c_0, ⟨c_186, H⟩⟩
theorem body_X10_caught {o n a : Int} {μ : Mem} {R : Mem → Option AV → Prop} (h : P_X10_caught o n a μ) (hR : ∀ (μ' : Mem) (r : Int), Q_X10_caught o n a μ μ' r → R μ' (some (kL r))) : V_X10_caught R 0 [(0, kR o), (1, kI n), (2, kI a)] μ := by
  obtain ⟨rfl, ⟨c, hc⟩, r_n, r_a⟩ := h
  obtain ⟨pt, ht⟩ := ask_town hc r_n
  have fin : ∀ (m : Mem) (x : Int), Ask μ m → x = onT (wvC μ 1) n (-1) (caughtT a) → R m (some (kL x)) := fun m x ha hx => hR m x ⟨ha, hx⟩
  refine vc_X10_caught_0 ⟨pt, fun t q => ?_⟩
  rcases ht t q with ⟨hneg, hno⟩ | ⟨hpos, hr, hl, hm, ht4, hy⟩
  · exact ⟨fun _ => fin μ _ (Ask_0 μ) (hno _ _).symm, fun q => absurd hneg q⟩
  · have hT := hr.1.1
    have ok := hr.1.2
    have hj := hr.2.2.1
    have hp : 2 ≤ μ t 1 ∧ μ t 1 ≤ 8 := ok.1
    have hpe : tv μ t 0 0 = μ t 1 := rfl
    have hle : tv μ t 1 0 = μ t 2 := rfl
    have a0 := Ask_0 μ
    rw [hy] at fin
    unfold caughtT at fin
    refine ⟨fun q => absurd q hpos, fun _ => ?_⟩
    refine ⟨r_a, fun c1 => fin μ _ a0 ?_, fun c1 => ⟨r_a, fun c2 => ⟨chase_P hc q hpos hr (by omega), fun m4 q4 => vc_X10_caught_36 (fin m4 _ (chase_ask q hpos (by omega) q4) ?_)⟩, fun c2 => fin μ _ a0 ?_⟩⟩
    · rw [if_neg (by omega)]
    · rw [if_pos (by omega)]; exact q4.2.2.1.1
    · rw [if_neg (by omega)]
theorem ct_X10_caught : Ct mX10_caught 4 110 0 0 (nrmS S_X10_caught) := by
  refine ct_vm (own := RX10) (by decide +kernel) rfl ?_ ?_
  · intro as μ Q hS
    unfold S_X10_caught at hS
    split at hS
    · exact Nat.le_of_ble_eq_true rfl
    · exact hS.elim
  · intro as μ R hS
    unfold S_X10_caught at hS
    split at hS
    · exact body_X10_caught hS.1 hS.2
    · exact hS.elim
