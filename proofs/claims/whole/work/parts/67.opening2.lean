theorem openV_bd {v : TV} {k n : Int} (hn : 0 ≤ n) (h64 : n ≤ 64) : -1 ≤ (openV v k n).2 ∧ (openV v k n).2 < 64 ∧ (0 ≤ (openV v k n).2 → newB v (openV v k n).2 = true ∧ (openV v k n).1 = opF v k (openV v k n).2) := by
  rcases mnR_cases (q := newB v) (f := opF v k) hn with ⟨e, _⟩ | ⟨j, hj, e, g⟩
  · unfold openV; rw [e]
    exact ⟨by decide, by decide, fun c => absurd (show (0 : Int) ≤ -1 from c) (by decide)⟩
  · unfold openV; rw [e]
    exact ⟨by show -1 ≤ j; omega, by show j < 64; omega, fun _ => ⟨g, rfl⟩⟩
theorem newB_at {v : TV} {a b : Int} (ha : 0 ≤ a) (hb : 0 ≤ b) (b8 : b < 8) : newB v (8 * a + b) = true ↔ (a < b ∧ b < v 0 0 ∧ v 7 (8 * a + b) = 0) := by
  unfold newB
  have ed : (8 * a + b) / 8 = a := by omega
  have em : (8 * a + b) % 8 = b := by omega
  rw [ed, em]
  exact decide_eq_true_iff
def P_X3_addLane (o t k g1 g2 : Int) (μ : Mem) : Prop := o = 178 ∧ g1 = 156 ∧ g2 = 167 ∧ TR μ t ∧ (1 ≤ k ∧ k ≤ 20) ∧ GInv μ 156 ∧ GInv μ 167 ∧ (r32 (μ t 0) ∧ r32 (μ 178 4) ∧ r32 (μ 178 5)) ∧ (μ t 0 = μ 178 4 → μ 178 5 = k → OpR μ (openV (tv μ t) k (8 * tv μ t 0 0)))
def Q_X3_addLane (_ t k _ _ : Int) (μ μ' : Mem) (r : Int) : Prop := (∀ z : Int, (z < 156 ∨ 179 < z) → μ' z = μ z) ∧ GInv μ' 156 ∧ GInv μ' 167 ∧ (∀ f : Int, f < 4 → μ' 178 f = μ 178 f) ∧ (¬ (1 ≤ popc (awayV (tv μ t)) ∧ popc (awayV (tv μ t)) ≤ 4) → r = 0 ∧ μ' 178 = μ 178) ∧
  (1 ≤ popc (awayV (tv μ t)) ∧ popc (awayV (tv μ t)) ≤ 4 → r = (if (openV (tv μ t) k (8 * tv μ t 0 0)).2 < 0 then 0 else 1) ∧ OpR μ' (openV (tv μ t) k (8 * tv μ t 0 0)) ∧ μ' 178 4 = μ t 0 ∧ μ' 178 5 = k)
def S_X3_addLane : S0t := fun as μ Q => match as with
  | [(2, x0), (2, x1), (0, x2), (2, x3), (2, x4)] => P_X3_addLane x0 x1 x2 x3 x4 μ ∧ ∀ (μ' : Mem) (r : Int), Q_X3_addLane x0 x1 x2 x3 x4 μ μ' r → Q μ' (some (kI r))
  | _ => False
theorem mono_X3_addLane : Mono S_X3_addLane := by
  intro as μ Q Q' h hS
  unfold S_X3_addLane at hS ⊢
  split at hS
  · exact ⟨hS.1, fun μ' r q => h _ _ (hS.2 _ _ q)⟩
  · exact hS.elim
def iX3_addLane : Inf := (kX3_addLane, fTX3, pTX3, cTX3, lTX3, sTX3, [(15, 0, 0, 7, S_X7_cellarsAway), (41, 0, 2, 0, S_X0_settle), (74, 0, 2, 7, S_X7_hasLane), (77, 0, 5, 3, S_X3_weighLane)])
theorem ok_X3_addLane : infOK iX3_addLane mX3_addLane RX3 5 134 := ⟨kkX3_addLane, fTX3_ok, pTX3_ok _, cTX3_ok, lTX3_ok, sTX3_ok, c_cons ⟨mX7_cellarsAway, 0, 0, ct_X7_cellarsAway, mmX7_cellarsAway, vvX7_cellarsAway, lkX3_15, ⟨by decide, by decide⟩, ⟨_, _, rfl⟩, by decide, mono_X7_cellarsAway⟩ (c_cons ⟨mX0_settle, 3, 83, ct_X0_settle, mmX0_settle, vvX0_settle, lkX3_41, ⟨by decide, by decide⟩, ⟨_, _, rfl⟩, by decide, mono_X0_settle⟩ (c_cons ⟨mX7_hasLane, 0, 0, ct_X7_hasLane, mmX7_hasLane, vvX7_hasLane, lkX3_74, ⟨by decide, by decide⟩, ⟨_, _, rfl⟩, by decide, mono_X7_hasLane⟩ (c_cons ⟨mX3_weighLane, 4, 108, ct_X3_weighLane, mmX3_weighLane, vvX3_weighLane, lkX3_77, ⟨by decide, by decide⟩, ⟨_, _, rfl⟩, by decide, mono_X3_weighLane⟩ (c_nil))))⟩
theorem mt_X3_addLane : mtOK [] RX3 5 134 := mt_nil
abbrev V_X3_addLane (R : Mem → Option AV → Prop) (pc : Nat) (lc : List (Nat × AV)) (μ : Mem) : Prop := VM mX3_addLane RX3 5 134 R pc lc [] μ
set_option maxRecDepth 20000 in
theorem vc_X3_addLane_0 {R : Mem → Option AV → Prop} {k t : Int} {μ : Mem} (ht : isT t) (H : P_X7_cellarsAway t μ ∧ P_X0_settle 156 (t + 2) (F_X7_cellarsAway t μ) μ ∧ (∀ (μ1 : Mem) (rv2 : Int), Q_X0_settle 156 (t + 2) (F_X7_cellarsAway t μ) μ μ1 rv2 → r32 rv2 ∧ ((¬ rv2 = 0) → r32 (μ1 t 0) ∧ r32 (μ1 178 4) ∧ ((¬ (μ1 t 0) = (μ1 178 4)) → V_X3_addLane R 44 [(0, kR 178), (1, kR t), (2, kI k), (3, kR 156), (4, kR 167)] (updm μ1 178 4 (μ1 t 0))) ∧ (¬ (¬ (μ1 t 0) = (μ1 178 4)) → r32 (μ1 178 5) ∧ r32 k ∧ (((μ1 178 5) = k) → r32 (μ1 178 6) ∧ (((μ1 178 6) = (-1 : Int)) → R μ1 (some (kI 0))) ∧ (¬ ((μ1 178 6) = (-1 : Int)) → R μ1 (some (kI 1)))) ∧ (¬ ((μ1 178 5) = k) → V_X3_addLane R 44 [(0, kR 178), (1, kR t), (2, kI k), (3, kR 156), (4, kR 167)] (updm μ1 178 4 (μ1 t 0))))) ∧ (¬ (¬ rv2 = 0) → R μ1 (some (kI 0))))) : V_X3_addLane R 0 [(0, kR 178), (1, kR t), (2, kI k), (3, kR 156), (4, kR 167)] μ := by
  refine vm_step2 mt_X3_addLane ok_X3_addLane [(44, [0, 1, 2, 3, 4]), (49, [0, 1, 3, 4]), (54, [0, 1, 3, 4]), (57, [0, 1, 3, 4, 5]), (72, [0, 1, 3, 4, 5, 6]), (104, [0, 1, 3, 4, 5, 6])] 1000 ?_
  show isC t 7 ∧ isC t 7 ∧ P_X7_cellarsAway t μ ∧ isC 156 0 ∧ P_X0_settle 156 (t + 2) (F_X7_cellarsAway t μ) μ ∧ (∀ (μ1 : Mem) (rv2 : Int), Q_X0_settle 156 (t + 2) (F_X7_cellarsAway t μ) μ μ1 rv2 → r32 rv2 ∧ ((¬ rv2 = 0) → isC t 7 ∧ isC 178 3 ∧ (r32 (μ1 t 0) ∧ r32 (μ1 178 4)) ∧ ((¬ (μ1 t 0) = (μ1 178 4)) → isC t 7 ∧ isC 178 3 ∧ 0 = 0 ∧ True ∧ V_X3_addLane R 44 [(0, kR 178), (1, kR t), (2, kI k), (3, kR 156), (4, kR 167)] (updm μ1 178 4 (μ1 t 0))) ∧ (¬ (¬ (μ1 t 0) = (μ1 178 4)) → isC 178 3 ∧ (r32 (μ1 178 5) ∧ r32 k) ∧ (((μ1 178 5) = k) → isC 178 3 ∧ (r32 (μ1 178 6) ∧ r32 (-1 : Int)) ∧ (((μ1 178 6) = (-1 : Int)) → (0 ≤ (0 : Int) ∧ (0 : Int) ≤ 1) ∧ R μ1 (some (kI 0))) ∧ (¬ ((μ1 178 6) = (-1 : Int)) → (0 ≤ (1 : Int) ∧ (1 : Int) ≤ 1) ∧ R μ1 (some (kI 1)))) ∧ (¬ ((μ1 178 5) = k) → isC t 7 ∧ isC 178 3 ∧ 0 = 0 ∧ True ∧ V_X3_addLane R 44 [(0, kR 178), (1, kR t), (2, kI k), (3, kR 156), (4, kR 167)] (updm μ1 178 4 (μ1 t 0))))) ∧ (¬ (¬ rv2 = 0) → (0 ≤ (0 : Int) ∧ (0 : Int) ≤ 1) ∧ R μ1 (some (kI 0))))
  exact ⟨isT_C ht, ⟨isT_C ht, H.1, ⟨c_156, H.2.1, fun μ1 rv2 hq3 => ⟨(H.2.2 μ1 rv2 hq3).1, fun hc7 => ⟨isT_C ht, ⟨c_178, ⟨⟨((H.2.2 μ1 rv2 hq3).2.1 hc7).1, ((H.2.2 μ1 rv2 hq3).2.1 hc7).2.1⟩, fun hc6 => ⟨isT_C ht, ⟨c_178, rfl, trivial, (((H.2.2 μ1 rv2 hq3).2.1 hc7).2.2.1 hc6)⟩⟩, fun hc6 => ⟨c_178, ⟨⟨(((H.2.2 μ1 rv2 hq3).2.1 hc7).2.2.2 hc6).1, (((H.2.2 μ1 rv2 hq3).2.1 hc7).2.2.2 hc6).2.1⟩, fun hc5 => ⟨c_178, ⟨⟨((((H.2.2 μ1 rv2 hq3).2.1 hc7).2.2.2 hc6).2.2.1 hc5).1, by unfold r32; omega⟩, fun hc4 => ⟨⟨by omega, by omega⟩, (((((H.2.2 μ1 rv2 hq3).2.1 hc7).2.2.2 hc6).2.2.1 hc5).2.1 hc4)⟩, fun hc4 => ⟨⟨by omega, by omega⟩, (((((H.2.2 μ1 rv2 hq3).2.1 hc7).2.2.2 hc6).2.2.1 hc5).2.2 hc4)⟩⟩⟩, fun hc5 => ⟨isT_C ht, ⟨c_178, rfl, trivial, ((((H.2.2 μ1 rv2 hq3).2.1 hc7).2.2.2 hc6).2.2.2 hc5)⟩⟩⟩⟩⟩⟩⟩, fun hc7 => ⟨⟨by omega, by omega⟩, ((H.2.2 μ1 rv2 hq3).2.2 hc7)⟩⟩⟩⟩⟩
set_option maxRecDepth 20000 in
theorem vc_X3_addLane_44 {R : Mem → Option AV → Prop} {k t : Int} {μ : Mem} (ht : isT t) (H : V_X3_addLane R 49 [(0, kR 178), (1, kR t), (3, kR 156), (4, kR 167)] (updm μ 178 5 k)) : V_X3_addLane R 44 [(0, kR 178), (1, kR t), (2, kI k), (3, kR 156), (4, kR 167)] μ := by
  refine vm_step2 mt_X3_addLane ok_X3_addLane [(44, [0, 1, 2, 3, 4]), (49, [0, 1, 3, 4]), (54, [0, 1, 3, 4]), (57, [0, 1, 3, 4, 5]), (72, [0, 1, 3, 4, 5, 6]), (104, [0, 1, 3, 4, 5, 6])] 1000 ?_
  show isC 178 3 ∧ 0 = 0 ∧ True ∧ V_X3_addLane R 49 [(0, kR 178), (1, kR t), (3, kR 156), (4, kR 167)] (updm μ 178 5 k)
  exact ⟨c_178, rfl, trivial, H⟩
set_option maxRecDepth 20000 in
theorem vc_X3_addLane_49 {R : Mem → Option AV → Prop} {t : Int} {μ : Mem} (ht : isT t) (H : V_X3_addLane R 54 [(0, kR 178), (1, kR t), (3, kR 156), (4, kR 167)] (updm μ 178 6 (-1))) : V_X3_addLane R 49 [(0, kR 178), (1, kR t), (3, kR 156), (4, kR 167)] μ := by
  refine vm_step2 mt_X3_addLane ok_X3_addLane [(44, [0, 1, 2, 3, 4]), (49, [0, 1, 3, 4]), (54, [0, 1, 3, 4]), (57, [0, 1, 3, 4, 5]), (72, [0, 1, 3, 4, 5, 6]), (104, [0, 1, 3, 4, 5, 6])] 1000 ?_
  show isC 178 3 ∧ 0 = 0 ∧ True ∧ V_X3_addLane R 54 [(0, kR 178), (1, kR t), (3, kR 156), (4, kR 167)] (updm μ 178 6 (-1))
  exact ⟨c_178, rfl, trivial, H⟩
set_option maxRecDepth 20000 in
theorem vc_X3_addLane_54 {R : Mem → Option AV → Prop} {t : Int} {μ : Mem} (ht : isT t) (H : V_X3_addLane R 57 [(0, kR 178), (1, kR t), (3, kR 156), (4, kR 167), (5, kI 0)] μ) : V_X3_addLane R 54 [(0, kR 178), (1, kR t), (3, kR 156), (4, kR 167)] μ := by
  refine vm_step2 mt_X3_addLane ok_X3_addLane [(44, [0, 1, 2, 3, 4]), (49, [0, 1, 3, 4]), (54, [0, 1, 3, 4]), (57, [0, 1, 3, 4, 5]), (72, [0, 1, 3, 4, 5, 6]), (104, [0, 1, 3, 4, 5, 6])] 1000 ?_
  show V_X3_addLane R 57 [(0, kR 178), (1, kR t), (3, kR 156), (4, kR 167), (5, kI 0)] μ
  exact H
set_option maxRecDepth 20000 in
theorem vc_X3_addLane_57 {R : Mem → Option AV → Prop} {a t : Int} {μ : Mem} (ht : isT t) (H : r32 a ∧ r32 (μ t 1) ∧ (((μ t 1) ≤ a) → r32 (μ 178 6) ∧ (((μ 178 6) = (-1 : Int)) → R μ (some (kI 0))) ∧ (¬ ((μ 178 6) = (-1 : Int)) → R μ (some (kI 1)))) ∧ (¬ ((μ t 1) ≤ a) → V_X3_addLane R 72 [(0, kR 178), (1, kR t), (3, kR 156), (4, kR 167), (5, kI a), (6, kI (a + 1))] μ)) : V_X3_addLane R 57 [(0, kR 178), (1, kR t), (3, kR 156), (4, kR 167), (5, kI a)] μ := by
  refine vm_step2 mt_X3_addLane ok_X3_addLane [(44, [0, 1, 2, 3, 4]), (49, [0, 1, 3, 4]), (54, [0, 1, 3, 4]), (57, [0, 1, 3, 4, 5]), (72, [0, 1, 3, 4, 5, 6]), (104, [0, 1, 3, 4, 5, 6])] 1000 ?_
  show isC t 7 ∧ (r32 a ∧ r32 (μ t 1)) ∧ (((μ t 1) ≤ a) → isC 178 3 ∧ (r32 (μ 178 6) ∧ r32 (-1 : Int)) ∧ (((μ 178 6) = (-1 : Int)) → (0 ≤ (0 : Int) ∧ (0 : Int) ≤ 1) ∧ R μ (some (kI 0))) ∧ (¬ ((μ 178 6) = (-1 : Int)) → (0 ≤ (1 : Int) ∧ (1 : Int) ≤ 1) ∧ R μ (some (kI 1)))) ∧ (¬ ((μ t 1) ≤ a) → V_X3_addLane R 72 [(0, kR 178), (1, kR t), (3, kR 156), (4, kR 167), (5, kI a), (6, kI (a + 1))] μ)
  exact ⟨isT_C ht, ⟨⟨H.1, H.2.1⟩, fun hc9 => ⟨c_178, ⟨⟨(H.2.2.1 hc9).1, by unfold r32; omega⟩, fun hc8 => ⟨⟨by omega, by omega⟩, ((H.2.2.1 hc9).2.1 hc8)⟩, fun hc8 => ⟨⟨by omega, by omega⟩, ((H.2.2.1 hc9).2.2 hc8)⟩⟩⟩, fun hc9 => (H.2.2.2 hc9)⟩⟩
set_option maxRecDepth 20000 in
theorem vc_X3_addLane_72 {R : Mem → Option AV → Prop} {a b t : Int} {μ : Mem} (ht : isT t) (H : r32 b ∧ r32 (μ t 1) ∧ (((μ t 1) ≤ b) → V_X3_addLane R 57 [(0, kR 178), (1, kR t), (3, kR 156), (4, kR 167), (5, kI (a + 1))] μ) ∧ (¬ ((μ t 1) ≤ b) → P_X7_hasLane t a b μ ∧ r32 (F_X7_hasLane t a b μ) ∧ ((¬ (F_X7_hasLane t a b μ) = 0) → V_X3_addLane R 104 [(0, kR 178), (1, kR t), (3, kR 156), (4, kR 167), (5, kI a), (6, kI b)] μ) ∧ (¬ (¬ (F_X7_hasLane t a b μ) = 0) → P_X3_weighLane 178 t a b 156 167 μ ∧ (∀ (μ10 : Mem), Q_X3_weighLane 178 t a b 156 167 μ μ10 → V_X3_addLane R 104 [(0, kR 178), (1, kR t), (3, kR 156), (4, kR 167), (5, kI a), (6, kI b)] μ10)))) : V_X3_addLane R 72 [(0, kR 178), (1, kR t), (3, kR 156), (4, kR 167), (5, kI a), (6, kI b)] μ := by
  refine vm_step2 mt_X3_addLane ok_X3_addLane [(44, [0, 1, 2, 3, 4]), (49, [0, 1, 3, 4]), (54, [0, 1, 3, 4]), (57, [0, 1, 3, 4, 5]), (72, [0, 1, 3, 4, 5, 6]), (104, [0, 1, 3, 4, 5, 6])] 1000 ?_
  show isC t 7 ∧ (r32 b ∧ r32 (μ t 1)) ∧ (((μ t 1) ≤ b) → V_X3_addLane R 57 [(0, kR 178), (1, kR t), (3, kR 156), (4, kR 167), (5, kI (a + 1))] μ) ∧ (¬ ((μ t 1) ≤ b) → isC t 7 ∧ P_X7_hasLane t a b μ ∧ r32 (F_X7_hasLane t a b μ) ∧ ((¬ (F_X7_hasLane t a b μ) = 0) → V_X3_addLane R 104 [(0, kR 178), (1, kR t), (3, kR 156), (4, kR 167), (5, kI a), (6, kI b)] μ) ∧ (¬ (¬ (F_X7_hasLane t a b μ) = 0) → isC 178 3 ∧ P_X3_weighLane 178 t a b 156 167 μ ∧ (∀ (μ10 : Mem), Q_X3_weighLane 178 t a b 156 167 μ μ10 → V_X3_addLane R 104 [(0, kR 178), (1, kR t), (3, kR 156), (4, kR 167), (5, kI a), (6, kI b)] μ10)))
  exact ⟨isT_C ht, ⟨⟨H.1, H.2.1⟩, fun hc14 => (H.2.2.1 hc14), fun hc14 => ⟨isT_C ht, (H.2.2.2 hc14).1, ⟨(H.2.2.2 hc14).2.1, fun hc13 => ((H.2.2.2 hc14).2.2.1 hc13), fun hc13 => ⟨c_178, ((H.2.2.2 hc14).2.2.2 hc13).1, fun μ10 hq12 => (((H.2.2.2 hc14).2.2.2 hc13).2 μ10 hq12)⟩⟩⟩⟩⟩
set_option maxRecDepth 20000 in
theorem vc_X3_addLane_104 {R : Mem → Option AV → Prop} {a b t : Int} {μ : Mem} (ht : isT t) (H : V_X3_addLane R 72 [(0, kR 178), (1, kR t), (3, kR 156), (4, kR 167), (5, kI a), (6, kI (b + 1))] μ) : V_X3_addLane R 104 [(0, kR 178), (1, kR t), (3, kR 156), (4, kR 167), (5, kI a), (6, kI b)] μ := by
  refine vm_step2 mt_X3_addLane ok_X3_addLane [(44, [0, 1, 2, 3, 4]), (49, [0, 1, 3, 4]), (54, [0, 1, 3, 4]), (57, [0, 1, 3, 4, 5]), (72, [0, 1, 3, 4, 5, 6]), (104, [0, 1, 3, 4, 5, 6])] 1000 ?_
  show V_X3_addLane R 72 [(0, kR 178), (1, kR t), (3, kR 156), (4, kR 167), (5, kI a), (6, kI (b + 1))] μ
  exact H
theorem body_X3_addLane {o t k g1 g2 : Int} {μ : Mem} {R : Mem → Option AV → Prop} (h : P_X3_addLane o t k g1 g2 μ) (hR : ∀ (μ' : Mem) (r : Int), Q_X3_addLane o t k g1 g2 μ μ' r → R μ' (some (kI r))) : V_X3_addLane R 0 [(0, kR o), (1, kR t), (2, kI k), (3, kR g1), (4, kR g2)] μ := by
  obtain ⟨rfl, rfl, rfl, hr, hk, hi1, hi2, ⟨rt, r4, r5⟩, hcache⟩ := h
  have ht := hr.1.1
  have ok := hr.1.2
  have hj := hr.2.2.1
  have hp : 2 ≤ μ t 1 ∧ μ t 1 ≤ 8 := ok.1
  have hpe : tv μ t 0 0 = μ t 1 := rfl
  have hT := isT_hi ht
  have hab := away_bd ok
  have haw := TR_away hr
  have gw := gw_way ok hj (s := awayV (tv μ t)) (fun _ _ _ h => h)
  have he := same_way hr (s := awayV (tv μ t)) (fun _ _ _ h => h)
  have ob := fun (n : Int) (h0 : 0 ≤ n) (h1 : n ≤ 64) => openV_bd (v := tv μ t) (k := k) h0 h1
  unfold Q_X3_addLane at hR
  rw [hpe] at hcache hR
  refine vc_X3_addLane_0 ht ?_
  rw [haw.1]
  refine ⟨haw.2, settle_P (by unfold isG; decide) (T_ways ht) (by omega) hab gw he hi1, fun m1 r1 q1 => ?_⟩
  have f1 := q1.1
  have e178 : m1 178 = μ 178 := f1 178 (by omega)
  have et : m1 t = μ t := f1 t (by omega)
  have hi2' : GInv m1 167 := GInv_frame hi2 (fun z z0 z1 => f1 z (by omega))
  by_cases hn : 1 ≤ popc (awayV (tv μ t)) ∧ popc (awayV (tv μ t)) ≤ 4
  · obtain ⟨s1, s2, s3⟩ := settle_Q hn gw he q1
    rw [e178, et]
    -- from the start
    have fresh : V_X3_addLane R 44 [(0, kR 178), (1, kR t), (2, kI k), (3, kR 156), (4, kR 167)] (updm m1 178 4 (μ t 0)) := by
      refine vc_X3_addLane_44 ht (vc_X3_addLane_49 ht (vc_X3_addLane_54 ht ?_))
      have x : ∀ z : Int, z ≠ 178 → updm (updm (updm m1 178 4 (μ t 0)) 178 5 k) 178 6 (-1) z = m1 z := fun z hz => by rw [ru_ne hz, ru_ne hz, ru_ne hz]
      have x4 : updm (updm (updm m1 178 4 (μ t 0)) 178 5 k) 178 6 (-1) 178 4 = μ t 0 := by rw [ru_eq, r1_ne (by omega), ru_eq, r1_ne (by omega), ru_eq, r1_eq]
      have x5 : updm (updm (updm m1 178 4 (μ t 0)) 178 5 k) 178 6 (-1) 178 5 = k := by rw [ru_eq, r1_ne (by omega), ru_eq, r1_eq]
      have x6 : updm (updm (updm m1 178 4 (μ t 0)) 178 5 k) 178 6 (-1) 178 6 = -1 := by rw [ru_eq, r1_eq]
      have xf : ∀ f : Int, f < 4 → updm (updm (updm m1 178 4 (μ t 0)) 178 5 k) 178 6 (-1) 178 f = μ 178 f := fun f hf => by rw [ru_eq, r1_ne (by omega), ru_eq, r1_ne (by omega), ru_eq, r1_ne (by omega), e178]
      generalize updm (updm (updm m1 178 4 (μ t 0)) 178 5 k) 178 6 (-1) = m2 at x x4 x5 x6 xf
      have pa : ∀ a : Int, 0 ≤ a → a ≤ μ t 1 → ∀ m : Mem, (∀ z : Int, (z < 156 ∨ 179 < z) → m z = μ z) → m 156 15 = (gv (wayV (tv μ t)) (awayV (tv μ t))).2.1 → m 156 16 = (gv (wayV (tv μ t)) (awayV (tv μ t))).2.2.1 → GInv m 156 → GInv m 167 → (∀ f : Int, f < 4 → m 178 f = μ 178 f) → m 178 4 = μ t 0 → m 178 5 = k → OpR m (openV (tv μ t) k (8 * a)) → V_X3_addLane R 57 [(0, kR 178), (1, kR t), (3, kR 156), (4, kR 167), (5, kI a)] m := by
        refine up_ind (P := fun a => ∀ m : Mem, (∀ z : Int, (z < 156 ∨ 179 < z) → m z = μ z) → m 156 15 = (gv (wayV (tv μ t)) (awayV (tv μ t))).2.1 → m 156 16 = (gv (wayV (tv μ t)) (awayV (tv μ t))).2.2.1 → GInv m 156 → GInv m 167 → (∀ f : Int, f < 4 → m 178 f = μ 178 f) → m 178 4 = μ t 0 → m 178 5 = k → OpR m (openV (tv μ t) k (8 * a)) → V_X3_addLane R 57 [(0, kR 178), (1, kR t), (3, kR 156), (4, kR 167), (5, kI a)] m) ?_ ?_
        · intro a a0 a1 iha m hf hA hB g1 g2 hff h4 h5 ho
          have e1 : m t 1 = μ t 1 := by rw [hf t (by omega)]
          refine vc_X3_addLane_57 ht ?_
          rw [e1]
          refine ⟨rr (by omega), rr (by omega), fun c => absurd c (by omega), fun _ => ?_⟩
          have pb : ∀ b : Int, a + 1 ≤ b → b ≤ μ t 1 → ∀ m : Mem, (∀ z : Int, (z < 156 ∨ 179 < z) → m z = μ z) → m 156 15 = (gv (wayV (tv μ t)) (awayV (tv μ t))).2.1 → m 156 16 = (gv (wayV (tv μ t)) (awayV (tv μ t))).2.2.1 → GInv m 156 → GInv m 167 → (∀ f : Int, f < 4 → m 178 f = μ 178 f) → m 178 4 = μ t 0 → m 178 5 = k → OpR m (openV (tv μ t) k (8 * a + b)) → V_X3_addLane R 72 [(0, kR 178), (1, kR t), (3, kR 156), (4, kR 167), (5, kI a), (6, kI b)] m := by
            refine up_ind (P := fun b => ∀ m : Mem, (∀ z : Int, (z < 156 ∨ 179 < z) → m z = μ z) → m 156 15 = (gv (wayV (tv μ t)) (awayV (tv μ t))).2.1 → m 156 16 = (gv (wayV (tv μ t)) (awayV (tv μ t))).2.2.1 → GInv m 156 → GInv m 167 → (∀ f : Int, f < 4 → m 178 f = μ 178 f) → m 178 4 = μ t 0 → m 178 5 = k → OpR m (openV (tv μ t) k (8 * a + b)) → V_X3_addLane R 72 [(0, kR 178), (1, kR t), (3, kR 156), (4, kR 167), (5, kI a), (6, kI b)] m) ?_ ?_
            · intro b b0 b1 ihb m hf hA hB g1 g2 hff h4 h5 ho
              have e1 : m t 1 = μ t 1 := by rw [hf t (by omega)]
              have frt : ∀ z : Int, t ≤ z → z ≤ t + 9 → m z = μ z := fun z z0 z1 => hf z (by omega)
              have etv := tv_frame frt
              have hr2 := TR_frame hr frt
              have hob := ob (8 * a + b) (by omega) (by omega)
              have hobf : 0 ≤ (openV (tv μ t) k (8 * a + b)).2 → (0 ≤ (openV (tv μ t) k (8 * a + b)).1.1 ∧ (openV (tv μ t) k (8 * a + b)).1.1 ≤ 2360279040000) ∧ (1 ≤ (openV (tv μ t) k (8 * a + b)).1.2 ∧ (openV (tv μ t) k (8 * a + b)).1.2 ≤ 4214784000) := fun c => by
                obtain ⟨n1, n2⟩ := hob.2.2 c
                rw [n2]
                have n3 := of_decide_eq_true n1
                have gb := gv_bd (gw_wid ok hj hk.1 (p := (openV (tv μ t) k (8 * a + b)).2 / 8) (q := (openV (tv μ t) k (8 * a + b)).2 % 8) (by omega) (by omega) (by omega) n3.2.1) hn
                exact ⟨gb.2.2.1, gb.2.2.2⟩
              have es : openV (tv μ t) k (8 * a + b + 1) = if newB (tv μ t) (8 * a + b) = true ∧ ((openV (tv μ t) k (8 * a + b)).2 < 0 ∨ (opF (tv μ t) k (8 * a + b)).1 * (openV (tv μ t) k (8 * a + b)).1.2 < (openV (tv μ t) k (8 * a + b)).1.1 * (opF (tv μ t) k (8 * a + b)).2) then (opF (tv μ t) k (8 * a + b), 8 * a + b) else openV (tv μ t) k (8 * a + b) := mnR_s (by omega)
              have i1 : 8 * a + (b + 1) = 8 * a + b + 1 := by omega
              rw [i1, es] at ihb
              have nb := newB_at (v := tv μ t) a0 (show 0 ≤ b by omega) (show b < 8 by omega)
              refine vc_X3_addLane_72 ht ?_
              unfold P_X7_hasLane F_X7_hasLane
              rw [e1, etv]
              refine ⟨rr (by omega), rr (by omega), fun c => absurd c (by omega), fun _ => ⟨⟨hr2.1, by omega, by omega⟩, ?_⟩⟩
              by_cases hz : tv μ t 7 (8 * a + b) = 0
              · rw [if_pos hz]
                have hnew := nb.mpr ⟨by omega, b1, hz⟩
                refine ⟨rr (by omega), fun c => absurd rfl c, fun _ => ⟨⟨rfl, rfl, rfl, hr2, by rw [etv, hpe]; omega, by omega, by rw [etv]; exact hn, by rw [etv]; exact ⟨hA, hB⟩, g2, ?_⟩, fun m3 q3 => vc_X3_addLane_104 ht ?_⟩⟩
                · by_cases c : (openV (tv μ t) k (8 * a + b)).2 < 0
                  · exact Or.inl (ho.1 c)
                  · have h1 := ho.2 (by omega)
                    have h2 := hobf (by omega)
                    refine Or.inr ⟨by omega, by omega, by omega⟩
                · unfold Q_X3_weighLane at q3
                  rw [etv, h5] at q3
                  have h3 := q3.2.2.2 _ hob.1 ho
                  have f3 : ∀ z : Int, (z < 156 ∨ 179 < z) → m3 z = μ z := fun z hz => by rw [q3.1 z (by omega)]; exact hf z hz
                  have e156 : m3 156 = m 156 := q3.1 156 (by omega)
                  refine ihb m3 f3 (by rw [e156]; exact hA) (by rw [e156]; exact hB) (GInv_frame g1 (fun z z0 z1 => q3.1 z (by omega))) q3.2.1 (fun f hf => by rw [q3.2.2.1 f (by omega)]; exact hff f hf) (by rw [q3.2.2.1 4 (by omega)]; exact h4) (by rw [q3.2.2.1 5 (by omega)]; exact h5) ?_
                  by_cases c : (openV (tv μ t) k (8 * a + b)).2 < 0 ∨ (opF (tv μ t) k (8 * a + b)).1 * (openV (tv μ t) k (8 * a + b)).1.2 < (openV (tv μ t) k (8 * a + b)).1.1 * (opF (tv μ t) k (8 * a + b)).2
                  · rw [if_pos c] at h3
                    rw [if_pos ⟨hnew, c⟩]; exact h3
                  · rw [if_neg c] at h3
                    rw [if_neg (fun q => c q.2)]; exact h3
              · rw [if_neg hz]
                refine ⟨rr (by omega), fun _ => vc_X3_addLane_104 ht ?_, fun c => absurd (show ¬ (1 : Int) = 0 by omega) c⟩
                rw [if_neg (fun q => hz (nb.mp q.1).2.2)] at ihb
                exact ihb m hf hA hB g1 g2 hff h4 h5 ho
            · intro m hf hA hB g1 g2 hff h4 h5 ho
              have e1 : m t 1 = μ t 1 := by rw [hf t (by omega)]
              refine vc_X3_addLane_72 ht ?_
              rw [e1]
              refine ⟨rr (by omega), rr (by omega), fun _ => iha m hf hA hB g1 g2 hff h4 h5 ?_, fun c => absurd (Int.le_refl _) c⟩
              have : openV (tv μ t) k (8 * (a + 1)) = openV (tv μ t) k (8 * a + μ t 1) := mnR_skip (by omega) (by omega) (fun j j0 j1 => by
                unfold newB
                refine decide_eq_false (fun q => ?_)
                have := q.2.1
                omega)
              rw [this]
              exact ho
          refine pb (a + 1) (Int.le_refl _) (by omega) m hf hA hB g1 g2 hff h4 h5 ?_
          have : openV (tv μ t) k (8 * a + (a + 1)) = openV (tv μ t) k (8 * a) := mnR_skip (by omega) (by omega) (fun j j0 j1 => by
            unfold newB
            refine decide_eq_false (fun q => ?_)
            have := q.1
            omega)
          rw [this]
          exact ho
        · intro m hf hA hB g1 g2 hff h4 h5 ho
          have e1 : m t 1 = μ t 1 := by rw [hf t (by omega)]
          have hob := ob (8 * μ t 1) (by omega) (by omega)
          refine vc_X3_addLane_57 ht ?_
          rw [e1]
          have r6 : r32 (m 178 6) := by
            by_cases c : (openV (tv μ t) k (8 * μ t 1)).2 < 0
            · rw [ho.1 c]; exact rr (by omega)
            · rw [(ho.2 (by omega)).1]; exact rr (by omega)
          refine ⟨rr (by omega), rr (by omega), fun _ => ⟨r6, fun c => hR m 0 ⟨hf, g1, g2, hff, fun q => absurd hn q, fun _ => ⟨?_, ho, h4, h5⟩⟩, fun c => hR m 1 ⟨hf, g1, g2, hff, fun q => absurd hn q, fun _ => ⟨?_, ho, h4, h5⟩⟩⟩, fun c => absurd (Int.le_refl _) c⟩
          · rw [if_pos]
            by_cases c2 : (openV (tv μ t) k (8 * μ t 1)).2 < 0
            · exact c2
            · have := (ho.2 (by omega)).1; omega
          · rw [if_neg (fun c2 => c (ho.1 c2))]
      refine pa 0 (by omega) (by omega) m2 (fun z hz => by rw [x z (by omega)]; exact f1 z (by omega)) (by rw [x 156 (by omega), s3]) (by rw [x 156 (by omega), s3]) (GInv_frame q1.2.1 (fun z z0 z1 => x z (by omega))) (GInv_frame hi2' (fun z z0 z1 => x z (by omega))) xf x4 x5 ⟨fun _ => x6, fun c => absurd (show (0 : Int) ≤ -1 from c) (by omega)⟩
    refine ⟨by rw [s1]; exact rr (by omega), fun _ => ⟨rt, r4, fun _ => fresh, fun c => ⟨r5, rr (by omega), fun c2 => ?_, fun _ => fresh⟩⟩, fun c => absurd (show ¬ r1 = 0 by omega) c⟩
    have c1 : μ t 0 = μ 178 4 := Classical.byContradiction c
    have ho := hcache c1 c2
    have ho1 : OpR m1 (openV (tv μ t) k (8 * μ t 1)) := by
      unfold OpR
      rw [e178]
      exact ho
    have hob := ob (8 * μ t 1) (by omega) (by omega)
    have r6 : r32 (μ 178 6) := by
      by_cases c : (openV (tv μ t) k (8 * μ t 1)).2 < 0
      · rw [ho.1 c]; exact rr (by omega)
      · rw [(ho.2 (by omega)).1]; exact rr (by omega)
    refine ⟨r6, fun c => hR m1 0 ⟨fun z hz => f1 z (by omega), q1.2.1, hi2', fun f _ => by rw [e178], fun q => absurd hn q, fun _ => ⟨?_, ho1, by rw [e178]; exact c1.symm, by rw [e178]; exact c2⟩⟩, fun c => hR m1 1 ⟨fun z hz => f1 z (by omega), q1.2.1, hi2', fun f _ => by rw [e178], fun q => absurd hn q, fun _ => ⟨?_, ho1, by rw [e178]; exact c1.symm, by rw [e178]; exact c2⟩⟩⟩
    · rw [if_pos]
      by_cases c2 : (openV (tv μ t) k (8 * μ t 1)).2 < 0
      · exact c2
      · have := (ho.2 (by omega)).1; omega
    · rw [if_neg (fun c2 => c (ho.1 c2))]
  · have hr0 := q1.2.2.1 hn
    subst hr0
    exact ⟨rr (by omega), fun c => absurd rfl c, fun _ => hR m1 0 ⟨fun z hz => f1 z (by omega), q1.2.1, hi2', fun f _ => by rw [e178], fun _ => ⟨rfl, e178⟩, fun q => absurd q hn⟩⟩
theorem ct_X3_addLane : Ct mX3_addLane 5 134 0 0 (nrmS S_X3_addLane) := by
  refine ct_vm (own := RX3) (by decide +kernel) rfl ?_ ?_
  · intro as μ Q hS
    unfold S_X3_addLane at hS
    split at hS
    · exact Nat.le_of_ble_eq_true rfl
    · exact hS.elim
  · intro as μ R hS
    unfold S_X3_addLane at hS
    split at hS
    · exact body_X3_addLane hS.1 hS.2
    · exact hS.elim
/-- what is left of it, a cellar shut -/
noncomputable def shF (v : TV) (a : Int) : Int × Int := if popc (remS (awayV v) a) < 1 then (0, 1) else ((gv (wayV v) (remS (awayV v) a)).2.1, (gv (wayV v) (remS (awayV v) a)).2.2.1)
noncomputable def shutV (v : TV) : Int → (Int × Int) × Int := mnR (hasB (awayV v)) (shF v)
def ShR (μ : Mem) (M : (Int × Int) × Int) : Prop := (M.2 < 0 → μ 178 1 = -1) ∧ (0 ≤ M.2 → μ 178 1 = M.2 ∧ μ 178 2 = M.1.1 ∧ μ 178 3 = M.1.2)
theorem rem_sub {v : TV} {a : Int} (a0 : 0 ≤ a) : ∀ b : Int, 0 ≤ b → b < 8 → hasB (remS (awayV v) a) b = true → hasB (awayV v) b = true := fun b b0 b1 h => by
  rw [has_rem a0 b0] at h
  exact (Bool.and_eq_true _ _ |>.mp h).1
theorem shF_bd {v : TV} (ok : TVok v) (hj : joined v) (hn : popc (awayV v) ≤ 4) {a : Int} (a0 : 0 ≤ a) (a8 : a < 8) (ha : hasB (awayV v) a = true) : (0 ≤ (shF v a).1 ∧ (shF v a).1 ≤ 2360279040000) ∧ (1 ≤ (shF v a).2 ∧ (shF v a).2 ≤ 4214784000) := by
  have hpr := popc_rem a0 a8 ha
  unfold shF
  by_cases c : popc (remS (awayV v) a) < 1
  · rw [if_pos c]; exact ⟨by decide, by decide⟩
  · rw [if_neg c]
    have := gv_bd (gw_way ok hj (s := remS (awayV v) a) (rem_sub a0)) (by omega)
    exact ⟨this.2.2.1, this.2.2.2⟩
def P_X3_shutOne (o t g2 : Int) (μ : Mem) : Prop := o = 178 ∧ g2 = 167 ∧ TR μ t ∧ GInv μ 167
def Q_X3_shutOne (_ t _ : Int) (μ μ' : Mem) (r : Int) : Prop := (∀ z : Int, (z < 167 ∨ 178 < z) → μ' z = μ z) ∧ GInv μ' 167 ∧ (∀ f : Int, (f < 1 ∨ 3 < f) → μ' 178 f = μ 178 f) ∧ (¬ (1 ≤ popc (awayV (tv μ t)) ∧ popc (awayV (tv μ t)) ≤ 4) → r = 0) ∧
  (1 ≤ popc (awayV (tv μ t)) ∧ popc (awayV (tv μ t)) ≤ 4 → r = 1 ∧ ShR μ' (shutV (tv μ t) (tv μ t 0 0)))
def S_X3_shutOne : S0t := fun as μ Q => match as with
  | [(2, x0), (2, x1), (2, x2)] => P_X3_shutOne x0 x1 x2 μ ∧ ∀ (μ' : Mem) (r : Int), Q_X3_shutOne x0 x1 x2 μ μ' r → Q μ' (some (kI r))
  | _ => False
theorem mono_X3_shutOne : Mono S_X3_shutOne := by
  intro as μ Q Q' h hS
  unfold S_X3_shutOne at hS ⊢
  split at hS
  · exact ⟨hS.1, fun μ' r q => h _ _ (hS.2 _ _ q)⟩
  · exact hS.elim
def iX3_shutOne : Inf := (kX3_shutOne, fTX3, pTX3, cTX3, lTX3, sTX3, [(15, 0, 0, 7, S_X7_cellarsAway), (21, 1, 1, 0, S_J6_bitCount_0f7a4), (34, 1, 2, 0, S_X10_isIn), (41, 0, 2, 0, S_X0_settle), (60, 1, 4, 0, S_X10_isLess)])
theorem ok_X3_shutOne : infOK iX3_shutOne mX3_shutOne RX3 4 108 := ⟨kkX3_shutOne, fTX3_ok, pTX3_ok _, cTX3_ok, lTX3_ok, sTX3_ok, c_cons ⟨mX7_cellarsAway, 0, 0, ct_X7_cellarsAway, mmX7_cellarsAway, vvX7_cellarsAway, lkX3_15, ⟨by decide, by decide⟩, ⟨_, _, rfl⟩, by decide, mono_X7_cellarsAway⟩ (c_cons ⟨mJ6_bitCount_0f7a4, 0, 0, ct_J6_bitCount_0f7a4, mmJ6_bitCount_0f7a4, stJ6_bitCount_0f7a4, lkX3_21, ⟨by decide, by decide⟩, mono_J6_bitCount_0f7a4⟩ (c_cons ⟨mX10_isIn, 0, 0, ct_X10_isIn, mmX10_isIn, stX10_isIn, lkX3_34, ⟨by decide, by decide⟩, mono_X10_isIn⟩ (c_cons ⟨mX0_settle, 3, 83, ct_X0_settle, mmX0_settle, vvX0_settle, lkX3_41, ⟨by decide, by decide⟩, ⟨_, _, rfl⟩, by decide, mono_X0_settle⟩ (c_cons ⟨mX10_isLess, 0, 0, ct_X10_isLess, mmX10_isLess, stX10_isLess, lkX3_60, ⟨by decide, by decide⟩, mono_X10_isLess⟩ (c_nil)))))⟩
theorem mt_X3_shutOne : mtOK [] RX3 4 108 := mt_nil
abbrev V_X3_shutOne (R : Mem → Option AV → Prop) (pc : Nat) (lc : List (Nat × AV)) (μ : Mem) : Prop := VM mX3_shutOne RX3 4 108 R pc lc [] μ
set_option maxRecDepth 20000 in
theorem vc_X3_shutOne_0 {R : Mem → Option AV → Prop} {t : Int} {μ : Mem} (ht : isT t) (H : P_X7_cellarsAway t μ ∧ P_J6_bitCount_0f7a4 (F_X7_cellarsAway t μ) μ ∧ r32 (F_J6_bitCount_0f7a4 (F_X7_cellarsAway t μ) μ) ∧ (((F_J6_bitCount_0f7a4 (F_X7_cellarsAway t μ) μ) < (1 : Int)) → R μ (some (kI 0))) ∧ (¬ ((F_J6_bitCount_0f7a4 (F_X7_cellarsAway t μ) μ) < (1 : Int)) → r32 (F_J6_bitCount_0f7a4 (F_X7_cellarsAway t μ) μ) ∧ (((F_J6_bitCount_0f7a4 (F_X7_cellarsAway t μ) μ) ≤ (4 : Int)) → V_X3_shutOne R 30 [(0, kR 178), (1, kR t), (2, kR 167), (3, kI (F_X7_cellarsAway t μ))] (updm μ 178 1 (-1))) ∧ (¬ ((F_J6_bitCount_0f7a4 (F_X7_cellarsAway t μ) μ) ≤ (4 : Int)) → R μ (some (kI 0))))) : V_X3_shutOne R 0 [(0, kR 178), (1, kR t), (2, kR 167)] μ := by
  refine vm_step2 mt_X3_shutOne ok_X3_shutOne [(30, [0, 1, 2, 3]), (33, [0, 1, 2, 3, 5]), (131, [0, 1, 2, 3, 5, 7, 9]), (137, [0, 1, 2, 3, 5, 9]), (143, [0, 1, 2, 3, 5])] 1000 ?_
  show isC t 7 ∧ P_X7_cellarsAway t μ ∧ P_J6_bitCount_0f7a4 (F_X7_cellarsAway t μ) μ ∧ (r32 (F_J6_bitCount_0f7a4 (F_X7_cellarsAway t μ) μ) ∧ r32 (1 : Int)) ∧ (((F_J6_bitCount_0f7a4 (F_X7_cellarsAway t μ) μ) < (1 : Int)) → (0 ≤ (0 : Int) ∧ (0 : Int) ≤ 1) ∧ R μ (some (kI 0))) ∧ (¬ ((F_J6_bitCount_0f7a4 (F_X7_cellarsAway t μ) μ) < (1 : Int)) → (r32 (F_J6_bitCount_0f7a4 (F_X7_cellarsAway t μ) μ) ∧ r32 (4 : Int)) ∧ (((F_J6_bitCount_0f7a4 (F_X7_cellarsAway t μ) μ) ≤ (4 : Int)) → isC 178 3 ∧ 0 = 0 ∧ True ∧ V_X3_shutOne R 30 [(0, kR 178), (1, kR t), (2, kR 167), (3, kI (F_X7_cellarsAway t μ))] (updm μ 178 1 (-1))) ∧ (¬ ((F_J6_bitCount_0f7a4 (F_X7_cellarsAway t μ) μ) ≤ (4 : Int)) → (0 ≤ (0 : Int) ∧ (0 : Int) ≤ 1) ∧ R μ (some (kI 0))))
  exact ⟨isT_C ht, H.1, ⟨H.2.1, ⟨⟨H.2.2.1, by unfold r32; omega⟩, fun hc2 => ⟨⟨by omega, by omega⟩, (H.2.2.2.1 hc2)⟩, fun hc2 => ⟨⟨(H.2.2.2.2 hc2).1, by unfold r32; omega⟩, fun hc1 => ⟨c_178, rfl, trivial, ((H.2.2.2.2 hc2).2.1 hc1)⟩, fun hc1 => ⟨⟨by omega, by omega⟩, ((H.2.2.2.2 hc2).2.2 hc1)⟩⟩⟩⟩⟩
set_option maxRecDepth 20000 in
theorem vc_X3_shutOne_30 {R : Mem → Option AV → Prop} {aw t : Int} {μ : Mem} (ht : isT t) (H : V_X3_shutOne R 33 [(0, kR 178), (1, kR t), (2, kR 167), (3, kI aw), (5, kI 1)] μ) : V_X3_shutOne R 30 [(0, kR 178), (1, kR t), (2, kR 167), (3, kI aw)] μ := by
  refine vm_step2 mt_X3_shutOne ok_X3_shutOne [(30, [0, 1, 2, 3]), (33, [0, 1, 2, 3, 5]), (131, [0, 1, 2, 3, 5, 7, 9]), (137, [0, 1, 2, 3, 5, 9]), (143, [0, 1, 2, 3, 5])] 1000 ?_
  show V_X3_shutOne R 33 [(0, kR 178), (1, kR t), (2, kR 167), (3, kI aw), (5, kI 1)] μ
  exact H
set_option maxRecDepth 20000 in
theorem vc_X3_shutOne_33 {R : Mem → Option AV → Prop} {aw a t : Int} {μ : Mem} (ht : isT t) (H : r32 a ∧ r32 (μ t 1) ∧ (((μ t 1) ≤ a) → R μ (some (kI 1))) ∧ (¬ ((μ t 1) ≤ a) → P_X10_isIn aw a μ ∧ r32 (F_X10_isIn aw a μ) ∧ (((F_X10_isIn aw a μ) = 0) → V_X3_shutOne R 143 [(0, kR 178), (1, kR t), (2, kR 167), (3, kI aw), (5, kI a)] μ) ∧ (¬ ((F_X10_isIn aw a μ) = 0) → P_X0_settle 167 (t + 2) (band aw (bxor (bshl 1 a) (-1))) μ ∧ (∀ (μ3 : Mem) (rv4 : Int), Q_X0_settle 167 (t + 2) (band aw (bxor (bshl 1 a) (-1))) μ μ3 rv4 → r32 rv4 ∧ ((rv4 = 0) → r32 rv4 ∧ ((rv4 = 0) → r32 (μ3 178 1) ∧ (((μ3 178 1) = (-1 : Int)) → V_X3_shutOne R 131 [(0, kR 178), (1, kR t), (2, kR 167), (3, kI aw), (5, kI a), (7, kL 0), (9, kL 1)] (updm μ3 178 1 a)) ∧ (¬ ((μ3 178 1) = (-1 : Int)) → P_X10_isLess 0 1 (μ3 178 2) (μ3 178 3) μ3 ∧ r32 (F_X10_isLess 0 1 (μ3 178 2) (μ3 178 3) μ3) ∧ (((F_X10_isLess 0 1 (μ3 178 2) (μ3 178 3) μ3) = 0) → V_X3_shutOne R 143 [(0, kR 178), (1, kR t), (2, kR 167), (3, kI aw), (5, kI a)] μ3) ∧ (¬ ((F_X10_isLess 0 1 (μ3 178 2) (μ3 178 3) μ3) = 0) → V_X3_shutOne R 131 [(0, kR 178), (1, kR t), (2, kR 167), (3, kI aw), (5, kI a), (7, kL 0), (9, kL 1)] (updm μ3 178 1 a)))) ∧ (¬ (rv4 = 0) → r32 (μ3 178 1) ∧ (((μ3 178 1) = (-1 : Int)) → V_X3_shutOne R 131 [(0, kR 178), (1, kR t), (2, kR 167), (3, kI aw), (5, kI a), (7, kL 0), (9, kL (μ3 167 16))] (updm μ3 178 1 a)) ∧ (¬ ((μ3 178 1) = (-1 : Int)) → P_X10_isLess 0 (μ3 167 16) (μ3 178 2) (μ3 178 3) μ3 ∧ r32 (F_X10_isLess 0 (μ3 167 16) (μ3 178 2) (μ3 178 3) μ3) ∧ (((F_X10_isLess 0 (μ3 167 16) (μ3 178 2) (μ3 178 3) μ3) = 0) → V_X3_shutOne R 143 [(0, kR 178), (1, kR t), (2, kR 167), (3, kI aw), (5, kI a)] μ3) ∧ (¬ ((F_X10_isLess 0 (μ3 167 16) (μ3 178 2) (μ3 178 3) μ3) = 0) → V_X3_shutOne R 131 [(0, kR 178), (1, kR t), (2, kR 167), (3, kI aw), (5, kI a), (7, kL 0), (9, kL (μ3 167 16))] (updm μ3 178 1 a))))) ∧ (¬ (rv4 = 0) → r32 rv4 ∧ ((rv4 = 0) → r32 (μ3 178 1) ∧ (((μ3 178 1) = (-1 : Int)) → V_X3_shutOne R 131 [(0, kR 178), (1, kR t), (2, kR 167), (3, kI aw), (5, kI a), (7, kL (μ3 167 15)), (9, kL 1)] (updm μ3 178 1 a)) ∧ (¬ ((μ3 178 1) = (-1 : Int)) → P_X10_isLess (μ3 167 15) 1 (μ3 178 2) (μ3 178 3) μ3 ∧ r32 (F_X10_isLess (μ3 167 15) 1 (μ3 178 2) (μ3 178 3) μ3) ∧ (((F_X10_isLess (μ3 167 15) 1 (μ3 178 2) (μ3 178 3) μ3) = 0) → V_X3_shutOne R 143 [(0, kR 178), (1, kR t), (2, kR 167), (3, kI aw), (5, kI a)] μ3) ∧ (¬ ((F_X10_isLess (μ3 167 15) 1 (μ3 178 2) (μ3 178 3) μ3) = 0) → V_X3_shutOne R 131 [(0, kR 178), (1, kR t), (2, kR 167), (3, kI aw), (5, kI a), (7, kL (μ3 167 15)), (9, kL 1)] (updm μ3 178 1 a)))) ∧ (¬ (rv4 = 0) → r32 (μ3 178 1) ∧ (((μ3 178 1) = (-1 : Int)) → V_X3_shutOne R 131 [(0, kR 178), (1, kR t), (2, kR 167), (3, kI aw), (5, kI a), (7, kL (μ3 167 15)), (9, kL (μ3 167 16))] (updm μ3 178 1 a)) ∧ (¬ ((μ3 178 1) = (-1 : Int)) → P_X10_isLess (μ3 167 15) (μ3 167 16) (μ3 178 2) (μ3 178 3) μ3 ∧ r32 (F_X10_isLess (μ3 167 15) (μ3 167 16) (μ3 178 2) (μ3 178 3) μ3) ∧ (((F_X10_isLess (μ3 167 15) (μ3 167 16) (μ3 178 2) (μ3 178 3) μ3) = 0) → V_X3_shutOne R 143 [(0, kR 178), (1, kR t), (2, kR 167), (3, kI aw), (5, kI a)] μ3) ∧ (¬ ((F_X10_isLess (μ3 167 15) (μ3 167 16) (μ3 178 2) (μ3 178 3) μ3) = 0) → V_X3_shutOne R 131 [(0, kR 178), (1, kR t), (2, kR 167), (3, kI aw), (5, kI a), (7, kL (μ3 167 15)), (9, kL (μ3 167 16))] (updm μ3 178 1 a))))))))) : V_X3_shutOne R 33 [(0, kR 178), (1, kR t), (2, kR 167), (3, kI aw), (5, kI a)] μ := by
  refine vm_step2 mt_X3_shutOne ok_X3_shutOne [(30, [0, 1, 2, 3]), (33, [0, 1, 2, 3, 5]), (131, [0, 1, 2, 3, 5, 7, 9]), (137, [0, 1, 2, 3, 5, 9]), (143, [0, 1, 2, 3, 5])] 1000 ?_
  show isC t 7 ∧ (r32 a ∧ r32 (μ t 1)) ∧ (((μ t 1) ≤ a) → (0 ≤ (1 : Int) ∧ (1 : Int) ≤ 1) ∧ R μ (some (kI 1))) ∧ (¬ ((μ t 1) ≤ a) → P_X10_isIn aw a μ ∧ r32 (F_X10_isIn aw a μ) ∧ (((F_X10_isIn aw a μ) = 0) → V_X3_shutOne R 143 [(0, kR 178), (1, kR t), (2, kR 167), (3, kI aw), (5, kI a)] μ) ∧ (¬ ((F_X10_isIn aw a μ) = 0) → isC t 7 ∧ isC 167 0 ∧ P_X0_settle 167 (t + 2) (band aw (bxor (bshl 1 a) (-1))) μ ∧ (∀ (μ3 : Mem) (rv4 : Int), Q_X0_settle 167 (t + 2) (band aw (bxor (bshl 1 a) (-1))) μ μ3 rv4 → r32 rv4 ∧ ((rv4 = 0) → r32 rv4 ∧ ((rv4 = 0) → isC 178 3 ∧ (r32 (μ3 178 1) ∧ r32 (-1 : Int)) ∧ (((μ3 178 1) = (-1 : Int)) → isC 178 3 ∧ 0 = 0 ∧ True ∧ V_X3_shutOne R 131 [(0, kR 178), (1, kR t), (2, kR 167), (3, kI aw), (5, kI a), (7, kL 0), (9, kL 1)] (updm μ3 178 1 a)) ∧ (¬ ((μ3 178 1) = (-1 : Int)) → isC 178 3 ∧ isC 178 3 ∧ P_X10_isLess 0 1 (μ3 178 2) (μ3 178 3) μ3 ∧ r32 (F_X10_isLess 0 1 (μ3 178 2) (μ3 178 3) μ3) ∧ (((F_X10_isLess 0 1 (μ3 178 2) (μ3 178 3) μ3) = 0) → V_X3_shutOne R 143 [(0, kR 178), (1, kR t), (2, kR 167), (3, kI aw), (5, kI a)] μ3) ∧ (¬ ((F_X10_isLess 0 1 (μ3 178 2) (μ3 178 3) μ3) = 0) → isC 178 3 ∧ 0 = 0 ∧ True ∧ V_X3_shutOne R 131 [(0, kR 178), (1, kR t), (2, kR 167), (3, kI aw), (5, kI a), (7, kL 0), (9, kL 1)] (updm μ3 178 1 a)))) ∧ (¬ (rv4 = 0) → isC 167 0 ∧ isC 178 3 ∧ (r32 (μ3 178 1) ∧ r32 (-1 : Int)) ∧ (((μ3 178 1) = (-1 : Int)) → isC 178 3 ∧ 0 = 0 ∧ True ∧ V_X3_shutOne R 131 [(0, kR 178), (1, kR t), (2, kR 167), (3, kI aw), (5, kI a), (7, kL 0), (9, kL (μ3 167 16))] (updm μ3 178 1 a)) ∧ (¬ ((μ3 178 1) = (-1 : Int)) → isC 178 3 ∧ isC 178 3 ∧ P_X10_isLess 0 (μ3 167 16) (μ3 178 2) (μ3 178 3) μ3 ∧ r32 (F_X10_isLess 0 (μ3 167 16) (μ3 178 2) (μ3 178 3) μ3) ∧ (((F_X10_isLess 0 (μ3 167 16) (μ3 178 2) (μ3 178 3) μ3) = 0) → V_X3_shutOne R 143 [(0, kR 178), (1, kR t), (2, kR 167), (3, kI aw), (5, kI a)] μ3) ∧ (¬ ((F_X10_isLess 0 (μ3 167 16) (μ3 178 2) (μ3 178 3) μ3) = 0) → isC 178 3 ∧ 0 = 0 ∧ True ∧ V_X3_shutOne R 131 [(0, kR 178), (1, kR t), (2, kR 167), (3, kI aw), (5, kI a), (7, kL 0), (9, kL (μ3 167 16))] (updm μ3 178 1 a))))) ∧ (¬ (rv4 = 0) → isC 167 0 ∧ r32 rv4 ∧ ((rv4 = 0) → isC 178 3 ∧ (r32 (μ3 178 1) ∧ r32 (-1 : Int)) ∧ (((μ3 178 1) = (-1 : Int)) → isC 178 3 ∧ 0 = 0 ∧ True ∧ V_X3_shutOne R 131 [(0, kR 178), (1, kR t), (2, kR 167), (3, kI aw), (5, kI a), (7, kL (μ3 167 15)), (9, kL 1)] (updm μ3 178 1 a)) ∧ (¬ ((μ3 178 1) = (-1 : Int)) → isC 178 3 ∧ isC 178 3 ∧ P_X10_isLess (μ3 167 15) 1 (μ3 178 2) (μ3 178 3) μ3 ∧ r32 (F_X10_isLess (μ3 167 15) 1 (μ3 178 2) (μ3 178 3) μ3) ∧ (((F_X10_isLess (μ3 167 15) 1 (μ3 178 2) (μ3 178 3) μ3) = 0) → V_X3_shutOne R 143 [(0, kR 178), (1, kR t), (2, kR 167), (3, kI aw), (5, kI a)] μ3) ∧ (¬ ((F_X10_isLess (μ3 167 15) 1 (μ3 178 2) (μ3 178 3) μ3) = 0) → isC 178 3 ∧ 0 = 0 ∧ True ∧ V_X3_shutOne R 131 [(0, kR 178), (1, kR t), (2, kR 167), (3, kI aw), (5, kI a), (7, kL (μ3 167 15)), (9, kL 1)] (updm μ3 178 1 a)))) ∧ (¬ (rv4 = 0) → isC 167 0 ∧ isC 178 3 ∧ (r32 (μ3 178 1) ∧ r32 (-1 : Int)) ∧ (((μ3 178 1) = (-1 : Int)) → isC 178 3 ∧ 0 = 0 ∧ True ∧ V_X3_shutOne R 131 [(0, kR 178), (1, kR t), (2, kR 167), (3, kI aw), (5, kI a), (7, kL (μ3 167 15)), (9, kL (μ3 167 16))] (updm μ3 178 1 a)) ∧ (¬ ((μ3 178 1) = (-1 : Int)) → isC 178 3 ∧ isC 178 3 ∧ P_X10_isLess (μ3 167 15) (μ3 167 16) (μ3 178 2) (μ3 178 3) μ3 ∧ r32 (F_X10_isLess (μ3 167 15) (μ3 167 16) (μ3 178 2) (μ3 178 3) μ3) ∧ (((F_X10_isLess (μ3 167 15) (μ3 167 16) (μ3 178 2) (μ3 178 3) μ3) = 0) → V_X3_shutOne R 143 [(0, kR 178), (1, kR t), (2, kR 167), (3, kI aw), (5, kI a)] μ3) ∧ (¬ ((F_X10_isLess (μ3 167 15) (μ3 167 16) (μ3 178 2) (μ3 178 3) μ3) = 0) → isC 178 3 ∧ 0 = 0 ∧ True ∧ V_X3_shutOne R 131 [(0, kR 178), (1, kR t), (2, kR 167), (3, kI aw), (5, kI a), (7, kL (μ3 167 15)), (9, kL (μ3 167 16))] (updm μ3 178 1 a))))))))
  exact ⟨isT_C ht, ⟨⟨H.1, H.2.1⟩, fun hc18 => ⟨⟨by omega, by omega⟩, (H.2.2.1 hc18)⟩, fun hc18 => ⟨(H.2.2.2 hc18).1, ⟨(H.2.2.2 hc18).2.1, fun hc17 => ((H.2.2.2 hc18).2.2.1 hc17), fun hc17 => ⟨isT_C ht, ⟨c_167, ((H.2.2.2 hc18).2.2.2 hc17).1, fun μ3 rv4 hq5 => ⟨(((H.2.2.2 hc18).2.2.2 hc17).2 μ3 rv4 hq5).1, fun hc16 => ⟨((((H.2.2.2 hc18).2.2.2 hc17).2 μ3 rv4 hq5).2.1 hc16).1, fun hc10 => ⟨c_178, ⟨⟨(((((H.2.2.2 hc18).2.2.2 hc17).2 μ3 rv4 hq5).2.1 hc16).2.1 hc10).1, by unfold r32; omega⟩, fun hc7 => ⟨c_178, rfl, trivial, ((((((H.2.2.2 hc18).2.2.2 hc17).2 μ3 rv4 hq5).2.1 hc16).2.1 hc10).2.1 hc7)⟩, fun hc7 => ⟨c_178, ⟨c_178, ⟨((((((H.2.2.2 hc18).2.2.2 hc17).2 μ3 rv4 hq5).2.1 hc16).2.1 hc10).2.2 hc7).1, ⟨((((((H.2.2.2 hc18).2.2.2 hc17).2 μ3 rv4 hq5).2.1 hc16).2.1 hc10).2.2 hc7).2.1, fun hc6 => (((((((H.2.2.2 hc18).2.2.2 hc17).2 μ3 rv4 hq5).2.1 hc16).2.1 hc10).2.2 hc7).2.2.1 hc6), fun hc6 => ⟨c_178, rfl, trivial, (((((((H.2.2.2 hc18).2.2.2 hc17).2 μ3 rv4 hq5).2.1 hc16).2.1 hc10).2.2 hc7).2.2.2 hc6)⟩⟩⟩⟩⟩⟩⟩, fun hc10 => ⟨c_167, ⟨c_178, ⟨⟨(((((H.2.2.2 hc18).2.2.2 hc17).2 μ3 rv4 hq5).2.1 hc16).2.2 hc10).1, by unfold r32; omega⟩, fun hc9 => ⟨c_178, rfl, trivial, ((((((H.2.2.2 hc18).2.2.2 hc17).2 μ3 rv4 hq5).2.1 hc16).2.2 hc10).2.1 hc9)⟩, fun hc9 => ⟨c_178, ⟨c_178, ⟨((((((H.2.2.2 hc18).2.2.2 hc17).2 μ3 rv4 hq5).2.1 hc16).2.2 hc10).2.2 hc9).1, ⟨((((((H.2.2.2 hc18).2.2.2 hc17).2 μ3 rv4 hq5).2.1 hc16).2.2 hc10).2.2 hc9).2.1, fun hc8 => (((((((H.2.2.2 hc18).2.2.2 hc17).2 μ3 rv4 hq5).2.1 hc16).2.2 hc10).2.2 hc9).2.2.1 hc8), fun hc8 => ⟨c_178, rfl, trivial, (((((((H.2.2.2 hc18).2.2.2 hc17).2 μ3 rv4 hq5).2.1 hc16).2.2 hc10).2.2 hc9).2.2.2 hc8)⟩⟩⟩⟩⟩⟩⟩⟩⟩, fun hc16 => ⟨c_167, ⟨((((H.2.2.2 hc18).2.2.2 hc17).2 μ3 rv4 hq5).2.2 hc16).1, fun hc15 => ⟨c_178, ⟨⟨(((((H.2.2.2 hc18).2.2.2 hc17).2 μ3 rv4 hq5).2.2 hc16).2.1 hc15).1, by unfold r32; omega⟩, fun hc12 => ⟨c_178, rfl, trivial, ((((((H.2.2.2 hc18).2.2.2 hc17).2 μ3 rv4 hq5).2.2 hc16).2.1 hc15).2.1 hc12)⟩, fun hc12 => ⟨c_178, ⟨c_178, ⟨((((((H.2.2.2 hc18).2.2.2 hc17).2 μ3 rv4 hq5).2.2 hc16).2.1 hc15).2.2 hc12).1, ⟨((((((H.2.2.2 hc18).2.2.2 hc17).2 μ3 rv4 hq5).2.2 hc16).2.1 hc15).2.2 hc12).2.1, fun hc11 => (((((((H.2.2.2 hc18).2.2.2 hc17).2 μ3 rv4 hq5).2.2 hc16).2.1 hc15).2.2 hc12).2.2.1 hc11), fun hc11 => ⟨c_178, rfl, trivial, (((((((H.2.2.2 hc18).2.2.2 hc17).2 μ3 rv4 hq5).2.2 hc16).2.1 hc15).2.2 hc12).2.2.2 hc11)⟩⟩⟩⟩⟩⟩⟩, fun hc15 => ⟨c_167, ⟨c_178, ⟨⟨(((((H.2.2.2 hc18).2.2.2 hc17).2 μ3 rv4 hq5).2.2 hc16).2.2 hc15).1, by unfold r32; omega⟩, fun hc14 => ⟨c_178, rfl, trivial, ((((((H.2.2.2 hc18).2.2.2 hc17).2 μ3 rv4 hq5).2.2 hc16).2.2 hc15).2.1 hc14)⟩, fun hc14 => ⟨c_178, ⟨c_178, ⟨((((((H.2.2.2 hc18).2.2.2 hc17).2 μ3 rv4 hq5).2.2 hc16).2.2 hc15).2.2 hc14).1, ⟨((((((H.2.2.2 hc18).2.2.2 hc17).2 μ3 rv4 hq5).2.2 hc16).2.2 hc15).2.2 hc14).2.1, fun hc13 => (((((((H.2.2.2 hc18).2.2.2 hc17).2 μ3 rv4 hq5).2.2 hc16).2.2 hc15).2.2 hc14).2.2.1 hc13), fun hc13 => ⟨c_178, rfl, trivial, (((((((H.2.2.2 hc18).2.2.2 hc17).2 μ3 rv4 hq5).2.2 hc16).2.2 hc15).2.2 hc14).2.2.2 hc13)⟩⟩⟩⟩⟩⟩⟩⟩⟩⟩⟩⟩⟩⟩⟩⟩⟩
set_option maxRecDepth 20000 in
theorem vc_X3_shutOne_131 {R : Mem → Option AV → Prop} {aw a wa wb t : Int} {μ : Mem} (ht : isT t) (H : V_X3_shutOne R 137 [(0, kR 178), (1, kR t), (2, kR 167), (3, kI aw), (5, kI a), (9, kL wb)] (updm μ 178 2 wa)) : V_X3_shutOne R 131 [(0, kR 178), (1, kR t), (2, kR 167), (3, kI aw), (5, kI a), (7, kL wa), (9, kL wb)] μ := by
  refine vm_step2 mt_X3_shutOne ok_X3_shutOne [(30, [0, 1, 2, 3]), (33, [0, 1, 2, 3, 5]), (131, [0, 1, 2, 3, 5, 7, 9]), (137, [0, 1, 2, 3, 5, 9]), (143, [0, 1, 2, 3, 5])] 1000 ?_
  show isC 178 3 ∧ 1 = 1 ∧ True ∧ V_X3_shutOne R 137 [(0, kR 178), (1, kR t), (2, kR 167), (3, kI aw), (5, kI a), (9, kL wb)] (updm μ 178 2 wa)
  exact ⟨c_178, rfl, trivial, H⟩
set_option maxRecDepth 20000 in
theorem vc_X3_shutOne_137 {R : Mem → Option AV → Prop} {aw a wb t : Int} {μ : Mem} (ht : isT t) (H : V_X3_shutOne R 143 [(0, kR 178), (1, kR t), (2, kR 167), (3, kI aw), (5, kI a)] (updm μ 178 3 wb)) : V_X3_shutOne R 137 [(0, kR 178), (1, kR t), (2, kR 167), (3, kI aw), (5, kI a), (9, kL wb)] μ := by
  refine vm_step2 mt_X3_shutOne ok_X3_shutOne [(30, [0, 1, 2, 3]), (33, [0, 1, 2, 3, 5]), (131, [0, 1, 2, 3, 5, 7, 9]), (137, [0, 1, 2, 3, 5, 9]), (143, [0, 1, 2, 3, 5])] 1000 ?_
  show isC 178 3 ∧ 1 = 1 ∧ True ∧ V_X3_shutOne R 143 [(0, kR 178), (1, kR t), (2, kR 167), (3, kI aw), (5, kI a)] (updm μ 178 3 wb)
  exact ⟨c_178, rfl, trivial, H⟩
set_option maxRecDepth 20000 in
theorem vc_X3_shutOne_143 {R : Mem → Option AV → Prop} {aw a t : Int} {μ : Mem} (ht : isT t) (H : V_X3_shutOne R 33 [(0, kR 178), (1, kR t), (2, kR 167), (3, kI aw), (5, kI (a + 1))] μ) : V_X3_shutOne R 143 [(0, kR 178), (1, kR t), (2, kR 167), (3, kI aw), (5, kI a)] μ := by
  refine vm_step2 mt_X3_shutOne ok_X3_shutOne [(30, [0, 1, 2, 3]), (33, [0, 1, 2, 3, 5]), (131, [0, 1, 2, 3, 5, 7, 9]), (137, [0, 1, 2, 3, 5, 9]), (143, [0, 1, 2, 3, 5])] 1000 ?_
  show V_X3_shutOne R 33 [(0, kR 178), (1, kR t), (2, kR 167), (3, kI aw), (5, kI (a + 1))] μ
  exact H
theorem body_X3_shutOne {o t g2 : Int} {μ : Mem} {R : Mem → Option AV → Prop} (h : P_X3_shutOne o t g2 μ) (hR : ∀ (μ' : Mem) (r : Int), Q_X3_shutOne o t g2 μ μ' r → R μ' (some (kI r))) : V_X3_shutOne R 0 [(0, kR o), (1, kR t), (2, kR g2)] μ := by
  obtain ⟨rfl, rfl, hr, hi⟩ := h
  have ht := hr.1.1
  have ok := hr.1.2
  have hj := hr.2.2.1
  have hp : 2 ≤ μ t 1 ∧ μ t 1 ≤ 8 := ok.1
  have hpe : tv μ t 0 0 = μ t 1 := rfl
  have hT := isT_hi ht
  have hab := away_bd ok
  have haw := TR_away hr
  have hpb := popc_bd (s := awayV (tv μ t))
  unfold Q_X3_shutOne at hR
  rw [hpe] at hR
  refine vc_X3_shutOne_0 ht ?_
  unfold F_J6_bitCount_0f7a4
  rw [haw.1]
  refine ⟨haw.2, hab, rr (by omega), fun c => hR μ 0 ⟨fun _ _ => rfl, hi, fun _ _ => rfl, fun _ => rfl, fun q => by omega⟩, fun c => ⟨rr (by omega), fun c2 => vc_X3_shutOne_30 ht ?_, fun c2 => hR μ 0 ⟨fun _ _ => rfl, hi, fun _ _ => rfl, fun _ => rfl, fun q => by omega⟩⟩⟩
  have hn : 1 ≤ popc (awayV (tv μ t)) ∧ popc (awayV (tv μ t)) ≤ 4 := by omega
  have pa : ∀ a : Int, 1 ≤ a → a ≤ μ t 1 → ∀ m : Mem, (∀ z : Int, (z < 167 ∨ 178 < z) → m z = μ z) → GInv m 167 → (∀ f : Int, (f < 1 ∨ 3 < f) → m 178 f = μ 178 f) → ShR m (shutV (tv μ t) a) → V_X3_shutOne R 33 [(0, kR 178), (1, kR t), (2, kR 167), (3, kI (awayV (tv μ t))), (5, kI a)] m := by
    refine up_ind (P := fun a => ∀ m : Mem, (∀ z : Int, (z < 167 ∨ 178 < z) → m z = μ z) → GInv m 167 → (∀ f : Int, (f < 1 ∨ 3 < f) → m 178 f = μ 178 f) → ShR m (shutV (tv μ t) a) → V_X3_shutOne R 33 [(0, kR 178), (1, kR t), (2, kR 167), (3, kI (awayV (tv μ t))), (5, kI a)] m) ?_ ?_
    · intro a a0 a1 ih m hf hg hff hs
      have e1 : m t 1 = μ t 1 := by rw [hf t (by omega)]
      have frt : ∀ z : Int, t ≤ z → z ≤ t + 9 → m z = μ z := fun z z0 z1 => hf z (by omega)
      have etv := tv_frame frt
      have hr2 := TR_frame hr frt
      have es : shutV (tv μ t) (a + 1) = if hasB (awayV (tv μ t)) a = true ∧ ((shutV (tv μ t) a).2 < 0 ∨ (shF (tv μ t) a).1 * (shutV (tv μ t) a).1.2 < (shutV (tv μ t) a).1.1 * (shF (tv μ t) a).2) then (shF (tv μ t) a, a) else shutV (tv μ t) a := mnR_s (by omega)
      rw [es] at ih
      refine vc_X3_shutOne_33 ht ?_
      unfold F_X10_isIn F_X10_isLess lessI
      rw [e1]
      refine ⟨rr (by omega), rr (by omega), fun c => absurd c (by omega), fun _ => ⟨⟨by omega, by omega⟩, ?_⟩⟩
      by_cases hy : hasB (awayV (tv μ t)) a = true
      · rw [if_pos hy, b_rem hab.1 (by omega) (by omega) (by omega)]
        have hrb := rem_bd (s := awayV (tv μ t)) (a := a) hab.1
        have hpr := popc_rem (show 0 ≤ a by omega) (show a < 8 by omega) hy
        have hsub := rem_sub (v := tv μ t) (show 0 ≤ a by omega)
        have gw := gw_way ok hj (s := remS (awayV (tv μ t)) a) hsub
        have he : sameW (fun x y => m (t + 2) (x * 8 + y)) (wayV (tv μ t)) (remS (awayV (tv μ t)) a) := by
          have := same_way hr2 (s := remS (awayV (tv μ t)) a) (by rw [etv]; exact hsub)
          rw [etv] at this
          exact this
        have sb := shF_bd ok hj hn.2 (show 0 ≤ a by omega) (show a < 8 by omega) hy
        refine ⟨rr (by omega), fun c => absurd c (by omega), fun _ => ⟨settle_P (by unfold isG; decide) (T_ways ht) (by omega) (by omega) gw he hg, fun m3 r4 q3 => ?_⟩⟩
        have f3 : ∀ z : Int, (z < 167 ∨ 178 < z) → m3 z = μ z := fun z hz => by rw [q3.1 z (by omega)]; exact hf z hz
        have e178 : m3 178 = m 178 := q3.1 178 (by omega)
        -- what it is worth
        have core : (r4 = 0 ∧ shF (tv μ t) a = (0, 1)) ∨ (r4 = 1 ∧ shF (tv μ t) a = (m3 167 15, m3 167 16)) := by
          unfold shF
          by_cases c : popc (remS (awayV (tv μ t)) a) < 1
          · rw [if_pos c]
            exact Or.inl ⟨q3.2.2.1 (by omega), rfl⟩
          · rw [if_neg c]
            obtain ⟨s1, s2, s3⟩ := settle_Q (by omega) gw he q3
            rw [s3]
            exact Or.inr ⟨s1, rfl⟩
        have take : ∀ wa wb : Int, (wa, wb) = shF (tv μ t) a → ((shutV (tv μ t) a).2 < 0 ∨ (shF (tv μ t) a).1 * (shutV (tv μ t) a).1.2 < (shutV (tv μ t) a).1.1 * (shF (tv μ t) a).2) → V_X3_shutOne R 131 [(0, kR 178), (1, kR t), (2, kR 167), (3, kI (awayV (tv μ t))), (5, kI a), (7, kL wa), (9, kL wb)] (updm m3 178 1 a) := by
          intro wa wb hw hlt
          rw [if_pos ⟨hy, hlt⟩] at ih
          refine vc_X3_shutOne_131 ht (vc_X3_shutOne_137 ht (vc_X3_shutOne_143 ht (ih _ (fun z hz => by rw [ru_ne (by omega), ru_ne (by omega), ru_ne (by omega)]; exact f3 z hz) (GInv_frame q3.2.1 (fun z z0 z1 => by rw [ru_ne (by omega), ru_ne (by omega), ru_ne (by omega)])) (fun f hfn => by rw [ru_eq, r1_ne (by omega), ru_eq, r1_ne (by omega), ru_eq, r1_ne (by omega), e178]; exact hff f hfn) ⟨fun c => absurd (show a < 0 from c) (by omega), fun _ => ⟨?_, ?_, ?_⟩⟩)))
          · rw [ru_eq, r1_ne (by omega), ru_eq, r1_ne (by omega), ru_eq, r1_eq]
          · rw [ru_eq, r1_ne (by omega), ru_eq, r1_eq]; exact congrArg Prod.fst hw
          · rw [ru_eq, r1_eq]; exact congrArg Prod.snd hw
        have skip : ¬ ((shutV (tv μ t) a).2 < 0 ∨ (shF (tv μ t) a).1 * (shutV (tv μ t) a).1.2 < (shutV (tv μ t) a).1.1 * (shF (tv μ t) a).2) → V_X3_shutOne R 143 [(0, kR 178), (1, kR t), (2, kR 167), (3, kI (awayV (tv μ t))), (5, kI a)] m3 := by
          intro hno
          rw [if_neg (fun q => hno q.2)] at ih
          refine vc_X3_shutOne_143 ht (ih m3 f3 q3.2.1 (fun f hfn => by rw [e178]; exact hff f hfn) ?_)
          unfold ShR
          rw [e178]
          exact hs
        -- the comparison
        have sc := mnR_cases (q := hasB (awayV (tv μ t))) (f := shF (tv μ t)) (n := a) (by omega)
        have sh2 : 0 ≤ (shutV (tv μ t) a).2 → (0 ≤ (shutV (tv μ t) a).1.1 ∧ (shutV (tv μ t) a).1.1 ≤ 2360279040000) ∧ (1 ≤ (shutV (tv μ t) a).1.2 ∧ (shutV (tv μ t) a).1.2 ≤ 4214784000) ∧ (shutV (tv μ t) a).2 < 8 := fun c => by
          unfold shutV at c ⊢
          rcases sc with ⟨e, _⟩ | ⟨j, hj2, e, g⟩
          · rw [e] at c; exact absurd (show (0 : Int) ≤ -1 from c) (by omega)
          · rw [e]
            have := shF_bd ok hj hn.2 hj2.1 (show j < 8 by omega) g
            exact ⟨this.1, this.2, by show j < 8; omega⟩
        have hm1 : -1 ≤ (shutV (tv μ t) a).2 := by
          unfold shutV
          rcases sc with ⟨e, _⟩ | ⟨j, hj2, e, g⟩
          · rw [e]; exact Int.le_refl _
          · rw [e]; show -1 ≤ j; omega
        have r1 : r32 (m3 178 1) := by
          rw [e178]
          by_cases c : (shutV (tv μ t) a).2 < 0
          · rw [hs.1 c]; exact rr (by omega)
          · have h1 := hs.2 (by omega)
            have h2 := sh2 (by omega)
            rw [h1.1]; exact rr (by omega)
        have cmp : ∀ wa wb : Int, (wa, wb) = shF (tv μ t) a → (m3 178 1 = -1 → V_X3_shutOne R 131 [(0, kR 178), (1, kR t), (2, kR 167), (3, kI (awayV (tv μ t))), (5, kI a), (7, kL wa), (9, kL wb)] (updm m3 178 1 a)) ∧ (¬ m3 178 1 = -1 → P_X10_isLess wa wb (m3 178 2) (m3 178 3) m3 ∧ r32 (if wa * m3 178 3 < m3 178 2 * wb then 1 else 0) ∧ (((if wa * m3 178 3 < m3 178 2 * wb then 1 else 0) = (0 : Int)) → V_X3_shutOne R 143 [(0, kR 178), (1, kR t), (2, kR 167), (3, kI (awayV (tv μ t))), (5, kI a)] m3) ∧ (¬ ((if wa * m3 178 3 < m3 178 2 * wb then 1 else 0) = (0 : Int)) → V_X3_shutOne R 131 [(0, kR 178), (1, kR t), (2, kR 167), (3, kI (awayV (tv μ t))), (5, kI a), (7, kL wa), (9, kL wb)] (updm m3 178 1 a))) := by
          intro wa wb hw
          have w1 : wa = (shF (tv μ t) a).1 := congrArg Prod.fst hw
          have w2 : wb = (shF (tv μ t) a).2 := congrArg Prod.snd hw
          rw [e178]
          refine ⟨fun c => take wa wb hw (Or.inl ?_), fun c => ?_⟩
          · by_cases c2 : (shutV (tv μ t) a).2 < 0
            · exact c2
            · have := (hs.2 (by omega)).1; omega
          · have c2 : ¬ (shutV (tv μ t) a).2 < 0 := fun q => c (hs.1 q)
            have h1 := hs.2 (by omega)
            have h2 := sh2 (by omega)
            rw [h1.2.1, h1.2.2]
            refine ⟨⟨by omega, by omega, by omega, by omega⟩, ?_⟩
            by_cases hl : wa * (shutV (tv μ t) a).1.2 < (shutV (tv μ t) a).1.1 * wb
            · rw [if_pos hl]
              exact ⟨rr (by omega), fun q => absurd q (by omega), fun _ => take wa wb hw (Or.inr (by rw [← w1, ← w2]; exact hl))⟩
            · rw [if_neg hl]
              exact ⟨rr (by omega), fun _ => skip (fun q => q.elim c2 (by rw [← w1, ← w2]; exact hl)), fun q => absurd rfl q⟩
        rcases core with ⟨h4, hv⟩ | ⟨h4, hv⟩
        · subst h4
          exact ⟨rr (by omega), fun _ => ⟨rr (by omega), fun _ => ⟨r1, (cmp 0 1 hv.symm).1, (cmp 0 1 hv.symm).2⟩, fun c => absurd rfl c⟩, fun c => absurd rfl c⟩
        · subst h4
          exact ⟨rr (by omega), fun c => absurd c (by omega), fun _ => ⟨rr (by omega), fun c => absurd c (by omega), fun _ => ⟨r1, (cmp _ _ hv.symm).1, (cmp _ _ hv.symm).2⟩⟩⟩
      · rw [if_neg hy]
        refine ⟨rr (by omega), fun _ => vc_X3_shutOne_143 ht ?_, fun c => absurd rfl c⟩
        rw [if_neg (fun q => hy q.1)] at ih
        exact ih m hf hg hff hs
    · intro m hf hg hff hs
      have e1 : m t 1 = μ t 1 := by rw [hf t (by omega)]
      refine vc_X3_shutOne_33 ht ?_
      rw [e1]
      exact ⟨rr (by omega), rr (by omega), fun _ => hR m 1 ⟨hf, hg, hff, fun q => absurd hn q, fun _ => ⟨rfl, hs⟩⟩, fun c => absurd (Int.le_refl _) c⟩
  have h0 : shutV (tv μ t) 1 = ((0, 0), -1) := by
    have := mnR_skip (q := hasB (awayV (tv μ t))) (f := shF (tv μ t)) (n := 0) (n' := 1) (by omega) (by omega) (fun b b0 b1 => by
      have e : b = 0 := by omega
      subst e
      rw [away_has ok (Int.le_refl _)]; rfl)
    exact this
  refine pa 1 (by omega) (by omega) _ (fun z hz => ru_ne (by omega)) (GInv_frame hi (fun z z0 z1 => ru_ne (by omega))) (fun f hf => by rw [ru_eq, r1_ne (by omega)]) ?_
  rw [h0]
  exact ⟨fun _ => by rw [ru_eq, r1_eq], fun c => absurd (show (0 : Int) ≤ -1 from c) (by omega)⟩
theorem ct_X3_shutOne : Ct mX3_shutOne 4 108 0 0 (nrmS S_X3_shutOne) := by
  refine ct_vm (own := RX3) (by decide +kernel) rfl ?_ ?_
  · intro as μ Q hS
    unfold S_X3_shutOne at hS
    split at hS
    · exact Nat.le_of_ble_eq_true rfl
    · exact hS.elim
  · intro as μ R hS
    unfold S_X3_shutOne at hS
    split at hS
    · exact body_X3_shutOne hS.1 hS.2
    · exact hS.elim
