def P_X6_planWalk (o t : Int) (μ : Mem) : Prop := o = 149 ∧ TR μ t
/-- what a plan leaves in the routes: the least cost, and the row -/
def WalkR (μ : Mem) (v : TV) (r : Int → Int) : Prop := μ 149 7 = rcV (wayV v) r (v 0 0) 0 (awayV v) ∧ RowR μ (wayV v) r (v 0 0) (awayV v) ∧ ∀ s : Int, 0 ≤ s → s < 256 → subS s (awayV v) → μ 153 s = rcV (wayV v) r (v 0 0) 0 s
def Q_X6_planWalk (_ t : Int) (μ μ' : Mem) : Prop := WalkR μ' (tv μ t) (sumV (tv μ t)) ∧ ∀ z : Int, (z < 149 ∨ 155 < z) → μ' z = μ z
theorem TR_away {μ : Mem} {t : Int} (h : TR μ t) : F_X7_cellarsAway t μ = awayV (tv μ t) ∧ P_X7_cellarsAway t μ := by
  obtain ⟨h1, h2, h3, h4, h5, h6⟩ := h
  have := cell_bd h1.2
  unfold F_X7_cellarsAway P_X7_cellarsAway awayV
  rw [h6]
  exact ⟨rfl, h1.1, this⟩
/-- from the rates on: the costs, the least, the row -/
theorem walk_fill {t : Int} {μ : Mem} (h : TR μ t) (hr : RateR μ) : P_X6_fillCosts 149 (t + 2) (μ t 1) (awayV (tv μ t)) μ := by
  obtain ⟨⟨ht, ok⟩, hw, h3, h4, h5, h6⟩ := h
  have hp : 2 ≤ μ t 1 ∧ μ t 1 ≤ 8 := ok.1
  have hT := isT_hi ht
  have hb := away_bd ok
  refine ⟨rfl, T_ways' ht, by omega, by omega, by omega, hb, away_in ok, fun a b a0 a1 b0 b1 => ?_, hr⟩
  have := hw a b a0 a1 b0 b1
  rw [this.1]
  exact this.2
theorem walk_cost {t : Int} {μ m : Mem} (h : TR μ t) (hQ : Q_X6_fillCosts 149 (t + 2) (μ t 1) (awayV (tv μ t)) μ m) : CostR m (wayV (tv μ t)) (tv μ t 0 0) (awayV (tv μ t)) := by
  obtain ⟨⟨ht, ok⟩, hw, h3, h4, h5, h6⟩ := h
  have hp : 2 ≤ μ t 1 ∧ μ t 1 ≤ 8 := ok.1
  exact CostR_congr (show 1 ≤ μ t 1 by omega) (fun a b a0 a1 b0 b1 => (hw a b a0 a1 b0 b1).1) hQ.1
/-- the end of a plan -/
theorem walk_end {t : Int} {μ m m' : Mem} {r : Int → Int} (h : TR μ t) (hf : ∀ z : Int, (z < 149 ∨ 155 < z) → m z = μ z) (hc : CostR m (wayV (tv μ t)) (tv μ t 0 0) (awayV (tv μ t))) (hr : ∀ s : Int, 0 ≤ s → s < 256 → m 152 s = r s) (h7 : m 149 7 = m 153 (awayV (tv μ t))) (hQ : Q_X6_trace 149 t (awayV (tv μ t)) m m') : WalkR m' (tv μ t) r ∧ ∀ z : Int, (z < 149 ∨ 155 < z) → m' z = μ z := by
  have ht := h.1.1
  have ok := h.1.2
  have hp := ok.1
  have hT := isT_hi ht
  have hb := away_bd ok
  have etv : tv m t = tv μ t := tv_frame (fun z z0 z1 => hf z (by omega))
  unfold Q_X6_trace at hQ
  rw [etv] at hQ
  obtain ⟨q1, q2, q3⟩ := hQ
  have cst : ∀ s : Int, 0 ≤ s → s < 256 → subS s (awayV (tv μ t)) → m' 153 s = rcV (wayV (tv μ t)) r (tv μ t 0 0) 0 s := fun s s0 s1 hs => by
    rw [q3 153 (by omega) (by omega)]
    have e := hc s 0 s0 s1 hs (Int.le_refl _) (by omega) (Or.inl rfl)
    have e2 : 256 * 0 + s = s := by omega
    rw [e2] at e
    rw [e]
    exact (rcV_congr (by omega) (fun _ _ _ _ _ _ => rfl) hr (Int.le_refl _) (by omega) s0 s1).1
  refine ⟨⟨?_, RowR_congr (by omega) hp.2 (fun _ _ _ _ _ _ => rfl) hr hb.1 hb.2 (away_in ok) q1, cst⟩, fun z hz => by rw [q3 z (by omega) (by omega)]; exact hf z hz⟩
  rw [q2 7 (by omega), h7, ← cst _ hb.1 hb.2 (fun _ _ _ h => h), q3 153 (by omega) (by omega)]
def S_X6_planWalk : S0t := fun as μ Q => match as with
  | [(2, x0), (2, x1)] => P_X6_planWalk x0 x1 μ ∧ ∀ (μ' : Mem) , Q_X6_planWalk x0 x1 μ μ'  → Q μ' none
  | _ => False
theorem mono_X6_planWalk : Mono S_X6_planWalk := by
  intro as μ Q Q' h hS
  unfold S_X6_planWalk at hS ⊢
  split at hS
  · exact ⟨hS.1, fun μ' q => h _ _ (hS.2 _ q)⟩
  · exact hS.elim
def iX6_planWalk : Inf := (kX6_planWalk, fTX6, pTX6, cTX6, lTX6, sTX6, [(34, 0, 1, 6, S_X6_sumUp), (38, 2, 0, 0, S_copy), (52, 0, 0, 7, S_X7_cellarsAway), (56, 0, 3, 6, S_X6_fillCosts), (63, 0, 2, 6, S_X6_trace)])
theorem ok_X6_planWalk : infOK iX6_planWalk mX6_planWalk RX6 3 75 := ⟨kkX6_planWalk, fTX6_ok, pTX6_ok _, cTX6_ok, lTX6_ok, sTX6_ok, c_cons ⟨mX6_sumUp, 2, 42, ct_X6_sumUp, mmX6_sumUp, vvX6_sumUp, lkX6_34, ⟨by decide, by decide⟩, ⟨_, _, rfl⟩, by decide, mono_X6_sumUp⟩ (c_cons ⟨by decide, AC_X6_38, AC1, AC2, AC3, by decide, by decide⟩ (c_cons ⟨mX7_cellarsAway, 0, 0, ct_X7_cellarsAway, mmX7_cellarsAway, vvX7_cellarsAway, lkX6_52, ⟨by decide, by decide⟩, ⟨_, _, rfl⟩, by decide, mono_X7_cellarsAway⟩ (c_cons ⟨mX6_fillCosts, 2, 50, ct_X6_fillCosts, mmX6_fillCosts, vvX6_fillCosts, lkX6_56, ⟨by decide, by decide⟩, ⟨_, _, rfl⟩, by decide, mono_X6_fillCosts⟩ (c_cons ⟨mX6_trace, 2, 48, ct_X6_trace, mmX6_trace, vvX6_trace, lkX6_63, ⟨by decide, by decide⟩, ⟨_, _, rfl⟩, by decide, mono_X6_trace⟩ (c_nil)))))⟩
theorem mt_X6_planWalk : mtOK [] RX6 3 75 := mt_nil
abbrev V_X6_planWalk (R : Mem → Option AV → Prop) (pc : Nat) (lc : List (Nat × AV)) (μ : Mem) : Prop := VM mX6_planWalk RX6 3 75 R pc lc [] μ
set_option maxRecDepth 20000 in
theorem vc_X6_planWalk_0 {R : Mem → Option AV → Prop} {t : Int} {μ : Mem} (ht : isT t) (H : P_X6_sumUp 149 t μ ∧ (∀ (μ1 : Mem), Q_X6_sumUp 149 t μ μ1 → V_X6_planWalk R 5 [(0, kR 149), (1, kR t)] μ1)) : V_X6_planWalk R 0 [(0, kR 149), (1, kR t)] μ := by
  refine vm_step2 mt_X6_planWalk ok_X6_planWalk [(5, [0, 1]), (21, [0, 1]), (37, [0, 1]), (50, [0, 1])] 1000 ?_
  show isC 149 6 ∧ P_X6_sumUp 149 t μ ∧ (∀ (μ1 : Mem), Q_X6_sumUp 149 t μ μ1 → V_X6_planWalk R 5 [(0, kR 149), (1, kR t)] μ1)
  exact ⟨c_149, H.1, fun μ1 hq3 => (H.2 μ1 hq3)⟩
set_option maxRecDepth 20000 in
theorem vc_X6_planWalk_5 {R : Mem → Option AV → Prop} {t : Int} {μ : Mem} (ht : isT t) (H : V_X6_planWalk R 21 [(0, kR 149), (1, kR t)] (seto μ 152 (cpy0 (μ 150) (μ 152) 256))) : V_X6_planWalk R 5 [(0, kR 149), (1, kR t)] μ := by
  refine vm_step2 mt_X6_planWalk ok_X6_planWalk [(5, [0, 1]), (21, [0, 1]), (37, [0, 1]), (50, [0, 1])] 1000 ?_
  show isC 149 6 ∧ isC 149 6 ∧ ((0 : Int) = 0 ∧ (0 : Int) = 0) ∧ ((0 ≤ (150 : Int) ∧ (150 : Int) < 232) ∧ (LAY (150 : Int).toNat).1 = 0) ∧ ((0 ≤ (152 : Int) ∧ (152 : Int) < 232) ∧ (LAY (152 : Int).toNat).1 = 0) ∧ (0 ≤ (256 : Int) ∧ (256 : Int) ≤ ((LAY (150 : Int).toNat).2 : Int) ∧ (256 : Int) ≤ ((LAY (152 : Int).toNat).2 : Int)) ∧ (0 = 2 → ∀ j : Int, 0 ≤ j → j < (256 : Int) → -128 ≤ μ 150 j ∧ μ 150 j ≤ 127) ∧ V_X6_planWalk R 21 [(0, kR 149), (1, kR t)] (seto μ 152 (cpy0 (μ 150) (μ 152) 256))
  exact ⟨c_149, ⟨c_149, ⟨⟨rfl, rfl⟩, ⟨a_150.1, a_150.k1⟩, ⟨a_152.1, a_152.k1⟩, cpl a_150 a_152 (⟨by omega, by omega⟩ : 0 ≤ (256 : Int) ∧ (256 : Int) ≤ 256) (by decide) (by decide), fun q => absurd q (by decide), H⟩⟩⟩
set_option maxRecDepth 20000 in
theorem vc_X6_planWalk_21 {R : Mem → Option AV → Prop} {t : Int} {μ : Mem} (ht : isT t) (H : P_X7_cellarsAway t μ ∧ P_X6_fillCosts 149 (t + 2) (μ t 1) (F_X7_cellarsAway t μ) μ ∧ (∀ (μ4 : Mem), Q_X6_fillCosts 149 (t + 2) (μ t 1) (F_X7_cellarsAway t μ) μ μ4 → V_X6_planWalk R 37 [(0, kR 149), (1, kR t)] μ4)) : V_X6_planWalk R 21 [(0, kR 149), (1, kR t)] μ := by
  refine vm_step2 mt_X6_planWalk ok_X6_planWalk [(5, [0, 1]), (21, [0, 1]), (37, [0, 1]), (50, [0, 1])] 1000 ?_
  show isC t 7 ∧ isC t 7 ∧ isC t 7 ∧ P_X7_cellarsAway t μ ∧ isC 149 6 ∧ P_X6_fillCosts 149 (t + 2) (μ t 1) (F_X7_cellarsAway t μ) μ ∧ (∀ (μ4 : Mem), Q_X6_fillCosts 149 (t + 2) (μ t 1) (F_X7_cellarsAway t μ) μ μ4 → V_X6_planWalk R 37 [(0, kR 149), (1, kR t)] μ4)
  exact ⟨isT_C ht, ⟨isT_C ht, ⟨isT_C ht, H.1, ⟨c_149, H.2.1, fun μ4 hq6 => (H.2.2 μ4 hq6)⟩⟩⟩⟩
set_option maxRecDepth 20000 in
theorem vc_X6_planWalk_37 {R : Mem → Option AV → Prop} {t : Int} {μ : Mem} (ht : isT t) (H : P_X7_cellarsAway t μ ∧ (0 ≤ (F_X7_cellarsAway t μ) ∧ (F_X7_cellarsAway t μ) < 2048) ∧ V_X6_planWalk R 50 [(0, kR 149), (1, kR t)] (updm μ 149 7 (μ 153 (F_X7_cellarsAway t μ)))) : V_X6_planWalk R 37 [(0, kR 149), (1, kR t)] μ := by
  refine vm_step2 mt_X6_planWalk ok_X6_planWalk [(5, [0, 1]), (21, [0, 1]), (37, [0, 1]), (50, [0, 1])] 1000 ?_
  show isC 149 6 ∧ isC t 7 ∧ P_X7_cellarsAway t μ ∧ inA 153 0 (F_X7_cellarsAway t μ) ∧ isC 149 6 ∧ 0 = 0 ∧ True ∧ V_X6_planWalk R 50 [(0, kR 149), (1, kR t)] (updm μ 149 7 (μ 153 (F_X7_cellarsAway t μ)))
  exact ⟨c_149, ⟨isT_C ht, H.1, ⟨isArr.in a_153 H.2.1.1 H.2.1.2, ⟨c_149, rfl, trivial, H.2.2⟩⟩⟩⟩
set_option maxRecDepth 20000 in
theorem vc_X6_planWalk_50 {R : Mem → Option AV → Prop} {t : Int} {μ : Mem} (ht : isT t) (H : P_X7_cellarsAway t μ ∧ P_X6_trace 149 t (F_X7_cellarsAway t μ) μ ∧ (∀ (μ7 : Mem), Q_X6_trace 149 t (F_X7_cellarsAway t μ) μ μ7 → R μ7 none)) : V_X6_planWalk R 50 [(0, kR 149), (1, kR t)] μ := by
  refine vm_step2 mt_X6_planWalk ok_X6_planWalk [(5, [0, 1]), (21, [0, 1]), (37, [0, 1]), (50, [0, 1])] 1000 ?_
  show isC t 7 ∧ P_X7_cellarsAway t μ ∧ isC 149 6 ∧ P_X6_trace 149 t (F_X7_cellarsAway t μ) μ ∧ (∀ (μ7 : Mem), Q_X6_trace 149 t (F_X7_cellarsAway t μ) μ μ7 → R μ7 none)
  exact ⟨isT_C ht, H.1, ⟨c_149, H.2.1, fun μ7 hq9 => (H.2.2 μ7 hq9)⟩⟩
theorem body_X6_planWalk {o t : Int} {μ : Mem} {R : Mem → Option AV → Prop} (h : P_X6_planWalk o t μ) (hR : ∀ μ' : Mem, Q_X6_planWalk o t μ μ' → R μ' none) : V_X6_planWalk R 0 [(0, kR o), (1, kR t)] μ := by
  obtain ⟨rfl, hr⟩ := h
  have ht := hr.1.1
  have ok := hr.1.2
  have hp : 2 ≤ μ t 1 ∧ μ t 1 ≤ 8 := ok.1
  have hT := isT_hi ht
  have hb := away_bd ok
  have fr : ∀ {m : Mem}, (∀ z : Int, (z < 149 ∨ 155 < z) → m z = μ z) → ∀ z : Int, t ≤ z → z ≤ t + 9 → m z = μ z := fun h z z0 z1 => h z (by omega)
  refine vc_X6_planWalk_0 ht ⟨⟨rfl, hr.1⟩, fun m1 q1 => vc_X6_planWalk_5 ht (vc_X6_planWalk_21 ht ?_)⟩
  have f1 : ∀ z : Int, (z < 149 ∨ 155 < z) → seto m1 152 (cpy0 (m1 150) (m1 152) 256) z = μ z := fun z hz => by
    rw [rs_ne (by omega)]; exact q1.2 z (by omega) (by omega)
  have s1 : ∀ s : Int, 0 ≤ s → s < 256 → seto m1 152 (cpy0 (m1 150) (m1 152) 256) 152 s = sumV (tv μ t) s := fun s s0 s1 => by
    rw [rs_eq, cpy_in s0 s1]; exact (q1.1 s s0 s1).1
  generalize seto m1 152 (cpy0 (m1 150) (m1 152) 256) = m2 at f1 s1
  have etv2 := tv_frame (fr f1)
  have hr2 := TR_frame hr (fr f1)
  have ha2 := TR_away hr2
  rw [ha2.1]
  have rt2 : RateR m2 := fun s x0 x1 => by
    rw [s1 s x0 x1]
    have := sumV_bd ok (s := s)
    omega
  refine ⟨ha2.2, walk_fill hr2 rt2, fun m3 q3 => vc_X6_planWalk_37 ht ?_⟩
  have c3 := walk_cost hr2 q3
  rw [etv2] at c3
  have f3 : ∀ z : Int, (z < 149 ∨ 155 < z) → m3 z = μ z := fun z hz => by rw [q3.2 z (by omega)]; exact f1 z hz
  have hr3 := TR_frame hr (fr f3)
  have ha3 := TR_away hr3
  have etv3 := tv_frame (fr f3)
  rw [ha3.1, etv3]
  refine ⟨ha3.2, by omega, vc_X6_planWalk_50 ht ?_⟩
  have f4 : ∀ z : Int, (z < 149 ∨ 155 < z) → updm m3 149 7 (m3 153 (awayV (tv μ t))) z = μ z := fun z hz => by rw [ru_ne (by omega)]; exact f3 z hz
  have x7 : updm m3 149 7 (m3 153 (awayV (tv μ t))) 149 7 = updm m3 149 7 (m3 153 (awayV (tv μ t))) 153 (awayV (tv μ t)) := by rw [ru_eq, r1_eq, ru_ne (by omega)]
  have x152 : updm m3 149 7 (m3 153 (awayV (tv μ t))) 152 = m3 152 := ru_ne (by omega)
  have x153 : updm m3 149 7 (m3 153 (awayV (tv μ t))) 153 = m3 153 := ru_ne (by omega)
  generalize updm m3 149 7 (m3 153 (awayV (tv μ t))) = m4 at f4 x7 x152 x153
  have hr4 := TR_frame hr (fr f4)
  have ha4 := TR_away hr4
  have etv4 := tv_frame (fr f4)
  have c4 : CostR m4 (wayV (tv μ t)) (tv μ t 0 0) (awayV (tv μ t)) := by
    unfold CostR
    rw [x152, x153]
    exact c3
  have s4 : ∀ s : Int, 0 ≤ s → s < 256 → m4 152 s = sumV (tv μ t) s := fun s x0 x1 => by rw [x152, q3.2 152 (by omega)]; exact s1 s x0 x1
  rw [ha4.1, etv4]
  refine ⟨ha4.2, ⟨rfl, hr4.1, hr4.2.1, hb, by rw [etv4]; exact away_in ok, fun s x0 x1 => by rw [s4 s x0 x1]; have := sumV_bd ok (s := s); omega, by rw [etv4]; exact c4⟩, fun m5 q5 => hR m5 (walk_end hr f4 c4 s4 x7 q5)⟩
theorem ct_X6_planWalk : Ct mX6_planWalk 3 75 0 0 (nrmS S_X6_planWalk) := by
  refine ct_vm (own := RX6) (by decide +kernel) rfl ?_ ?_
  · intro as μ Q hS
    unfold S_X6_planWalk at hS
    split at hS
    · exact Nat.le_of_ble_eq_true rfl
    · exact hS.elim
  · intro as μ R hS
    unfold S_X6_planWalk at hS
    split at hS
    · exact body_X6_planWalk hS.1 hS.2
    · exact hS.elim
/-- two go: how the cellars are shared -/
def twoV (v : TV) : Int → Int × Int := mnF (fun s => subB s (awayV v)) (fun s => rcV (wayV v) (sumV v) (v 0 0) 0 s + rcV (wayV v) (sumV v) (v 0 0) 0 (difS (awayV v) s))
def P_X6_planTwo (o t : Int) (μ : Mem) : Prop := o = 149 ∧ TR μ t
def Q_X6_planTwo (_ t : Int) (μ μ' : Mem) : Prop := (μ' 149 7 = (twoV (tv μ t) (awayV (tv μ t) + 1)).1 ∧ μ' 149 9 = (twoV (tv μ t) (awayV (tv μ t) + 1)).2) ∧ ∀ z : Int, (z < 149 ∨ 155 < z) → μ' z = μ z
theorem rc_bd {v : TV} (ok : TVok v) (hj : joined v) {r : Int → Int} (hr : ∀ s : Int, 0 ≤ s → s < 256 → 0 ≤ r s ∧ r s ≤ 274428) {fm s : Int} (f0 : 0 ≤ fm) (f1 : fm < v 0 0) (s0 : 0 ≤ s) (s1 : s < 256) : 0 ≤ rcV (wayV v) r (v 0 0) fm s ∧ rcV (wayV v) r (v 0 0) fm s ≤ 307359360 := by
  have hp := ok.1
  have h1 := rcV_bd (W := wayV v) (r := r) (n := v 0 0) (B := 274428) (by omega) hp.2 (by omega) (fun a b a0 a1 b0 b1 => way_bd ok hj a0 a1 b0 b1) hr 255 fm s s0 s1 (by omega) ⟨f0, f1⟩
  have h2 := popc_bd (s := s)
  have h3 : popc s * (140 * 274428) ≤ 8 * (140 * 274428) := Int.mul_le_mul_of_nonneg_right h2.2 (by omega)
  omega
def S_X6_planTwo : S0t := fun as μ Q => match as with
  | [(2, x0), (2, x1)] => P_X6_planTwo x0 x1 μ ∧ ∀ (μ' : Mem) , Q_X6_planTwo x0 x1 μ μ'  → Q μ' none
  | _ => False
theorem mono_X6_planTwo : Mono S_X6_planTwo := by
  intro as μ Q Q' h hS
  unfold S_X6_planTwo at hS ⊢
  split at hS
  · exact ⟨hS.1, fun μ' q => h _ _ (hS.2 _ q)⟩
  · exact hS.elim
def iX6_planTwo : Inf := (kX6_planTwo, fTX6, pTX6, cTX6, lTX6, sTX6, [(67, 0, 1, 6, S_X6_planWalk), (52, 0, 0, 7, S_X7_cellarsAway)])
theorem ok_X6_planTwo : infOK iX6_planTwo mX6_planTwo RX6 4 96 := ⟨kkX6_planTwo, fTX6_ok, pTX6_ok _, cTX6_ok, lTX6_ok, sTX6_ok, c_cons ⟨mX6_planWalk, 3, 75, ct_X6_planWalk, mmX6_planWalk, vvX6_planWalk, lkX6_67, ⟨by decide, by decide⟩, ⟨_, _, rfl⟩, by decide, mono_X6_planWalk⟩ (c_cons ⟨mX7_cellarsAway, 0, 0, ct_X7_cellarsAway, mmX7_cellarsAway, vvX7_cellarsAway, lkX6_52, ⟨by decide, by decide⟩, ⟨_, _, rfl⟩, by decide, mono_X7_cellarsAway⟩ (c_nil))⟩
theorem mt_X6_planTwo : mtOK [] RX6 4 96 := mt_nil
abbrev V_X6_planTwo (R : Mem → Option AV → Prop) (pc : Nat) (lc : List (Nat × AV)) (μ : Mem) : Prop := VM mX6_planTwo RX6 4 96 R pc lc [] μ
set_option maxRecDepth 20000 in
theorem vc_X6_planTwo_0 {R : Mem → Option AV → Prop} {t : Int} {μ : Mem} (ht : isT t) (H : P_X6_planWalk 149 t μ ∧ (∀ (μ1 : Mem), Q_X6_planWalk 149 t μ μ1 → V_X6_planTwo R 5 [(0, kR 149), (1, kR t)] μ1)) : V_X6_planTwo R 0 [(0, kR 149), (1, kR t)] μ := by
  refine vm_step2 mt_X6_planTwo ok_X6_planTwo [(5, [0, 1]), (15, [0, 2]), (17, [0, 2, 3]), (71, [0, 2, 3]), (76, [0, 2, 3])] 1000 ?_
  show isC 149 6 ∧ P_X6_planWalk 149 t μ ∧ (∀ (μ1 : Mem), Q_X6_planWalk 149 t μ μ1 → V_X6_planTwo R 5 [(0, kR 149), (1, kR t)] μ1)
  exact ⟨c_149, H.1, fun μ1 hq3 => (H.2 μ1 hq3)⟩
set_option maxRecDepth 20000 in
theorem vc_X6_planTwo_5 {R : Mem → Option AV → Prop} {t : Int} {μ : Mem} (ht : isT t) (H : P_X7_cellarsAway t μ ∧ V_X6_planTwo R 15 [(0, kR 149), (2, kI (F_X7_cellarsAway t μ))] (updm μ 149 9 0)) : V_X6_planTwo R 5 [(0, kR 149), (1, kR t)] μ := by
  refine vm_step2 mt_X6_planTwo ok_X6_planTwo [(5, [0, 1]), (15, [0, 2]), (17, [0, 2, 3]), (71, [0, 2, 3]), (76, [0, 2, 3])] 1000 ?_
  show isC t 7 ∧ P_X7_cellarsAway t μ ∧ isC 149 6 ∧ 0 = 0 ∧ True ∧ V_X6_planTwo R 15 [(0, kR 149), (2, kI (F_X7_cellarsAway t μ))] (updm μ 149 9 0)
  exact ⟨isT_C ht, H.1, ⟨c_149, rfl, trivial, H.2⟩⟩
set_option maxRecDepth 20000 in
theorem vc_X6_planTwo_15 {R : Mem → Option AV → Prop} {g t : Int} {μ : Mem} (ht : isT t) (H : V_X6_planTwo R 17 [(0, kR 149), (2, kI g), (3, kI 1)] μ) : V_X6_planTwo R 15 [(0, kR 149), (2, kI g)] μ := by
  refine vm_step2 mt_X6_planTwo ok_X6_planTwo [(5, [0, 1]), (15, [0, 2]), (17, [0, 2, 3]), (71, [0, 2, 3]), (76, [0, 2, 3])] 1000 ?_
  show V_X6_planTwo R 17 [(0, kR 149), (2, kI g), (3, kI 1)] μ
  exact H
set_option maxRecDepth 20000 in
theorem vc_X6_planTwo_17 {R : Mem → Option AV → Prop} {g s t : Int} {μ : Mem} (ht : isT t) (H : r32 s ∧ r32 g ∧ ((g < s) → R μ none) ∧ (¬ (g < s) → r32 (band s (bxor g (-1))) ∧ ((¬ (band s (bxor g (-1))) = 0) → V_X6_planTwo R 76 [(0, kR 149), (2, kI g), (3, kI s)] μ) ∧ (¬ (¬ (band s (bxor g (-1))) = 0) → (0 ≤ s ∧ s < 2048) ∧ (0 ≤ (bxor g s) ∧ (bxor g s) < 2048) ∧ r32 ((μ 153 s) + (μ 153 (bxor g s))) ∧ r32 (μ 149 7) ∧ (((μ 149 7) ≤ ((μ 153 s) + (μ 153 (bxor g s)))) → V_X6_planTwo R 76 [(0, kR 149), (2, kI g), (3, kI s)] μ) ∧ (¬ ((μ 149 7) ≤ ((μ 153 s) + (μ 153 (bxor g s)))) → (0 ≤ s ∧ s < 2048) ∧ (0 ≤ (bxor g s) ∧ (bxor g s) < 2048) ∧ V_X6_planTwo R 71 [(0, kR 149), (2, kI g), (3, kI s)] (updm μ 149 7 ((μ 153 s) + (μ 153 (bxor g s)))))))) : V_X6_planTwo R 17 [(0, kR 149), (2, kI g), (3, kI s)] μ := by
  refine vm_step2 mt_X6_planTwo ok_X6_planTwo [(5, [0, 1]), (15, [0, 2]), (17, [0, 2, 3]), (71, [0, 2, 3]), (76, [0, 2, 3])] 1000 ?_
  show (r32 s ∧ r32 g) ∧ ((g < s) → R μ none) ∧ (¬ (g < s) → r32 (band s (bxor g (-1))) ∧ ((¬ (band s (bxor g (-1))) = 0) → V_X6_planTwo R 76 [(0, kR 149), (2, kI g), (3, kI s)] μ) ∧ (¬ (¬ (band s (bxor g (-1))) = 0) → isC 149 6 ∧ inA 153 0 s ∧ isC 149 6 ∧ inA 153 0 (bxor g s) ∧ isC 149 6 ∧ (r32 ((μ 153 s) + (μ 153 (bxor g s))) ∧ r32 (μ 149 7)) ∧ (((μ 149 7) ≤ ((μ 153 s) + (μ 153 (bxor g s)))) → V_X6_planTwo R 76 [(0, kR 149), (2, kI g), (3, kI s)] μ) ∧ (¬ ((μ 149 7) ≤ ((μ 153 s) + (μ 153 (bxor g s)))) → isC 149 6 ∧ inA 153 0 s ∧ isC 149 6 ∧ inA 153 0 (bxor g s) ∧ isC 149 6 ∧ 0 = 0 ∧ True ∧ V_X6_planTwo R 71 [(0, kR 149), (2, kI g), (3, kI s)] (updm μ 149 7 ((μ 153 s) + (μ 153 (bxor g s)))))))
  exact ⟨⟨H.1, H.2.1⟩, fun hc6 => (H.2.2.1 hc6), fun hc6 => ⟨(H.2.2.2 hc6).1, fun hc5 => ((H.2.2.2 hc6).2.1 hc5), fun hc5 => ⟨c_149, ⟨isArr.in a_153 ((H.2.2.2 hc6).2.2 hc5).1.1 ((H.2.2.2 hc6).2.2 hc5).1.2, ⟨c_149, ⟨isArr.in a_153 ((H.2.2.2 hc6).2.2 hc5).2.1.1 ((H.2.2.2 hc6).2.2 hc5).2.1.2, ⟨c_149, ⟨⟨((H.2.2.2 hc6).2.2 hc5).2.2.1, ((H.2.2.2 hc6).2.2 hc5).2.2.2.1⟩, fun hc4 => (((H.2.2.2 hc6).2.2 hc5).2.2.2.2.1 hc4), fun hc4 => ⟨c_149, ⟨isArr.in a_153 (((H.2.2.2 hc6).2.2 hc5).2.2.2.2.2 hc4).1.1 (((H.2.2.2 hc6).2.2 hc5).2.2.2.2.2 hc4).1.2, ⟨c_149, ⟨isArr.in a_153 (((H.2.2.2 hc6).2.2 hc5).2.2.2.2.2 hc4).2.1.1 (((H.2.2.2 hc6).2.2 hc5).2.2.2.2.2 hc4).2.1.2, ⟨c_149, rfl, trivial, (((H.2.2.2 hc6).2.2 hc5).2.2.2.2.2 hc4).2.2⟩⟩⟩⟩⟩⟩⟩⟩⟩⟩⟩⟩⟩
set_option maxRecDepth 20000 in
theorem vc_X6_planTwo_71 {R : Mem → Option AV → Prop} {g s t : Int} {μ : Mem} (ht : isT t) (H : V_X6_planTwo R 76 [(0, kR 149), (2, kI g), (3, kI s)] (updm μ 149 9 s)) : V_X6_planTwo R 71 [(0, kR 149), (2, kI g), (3, kI s)] μ := by
  refine vm_step2 mt_X6_planTwo ok_X6_planTwo [(5, [0, 1]), (15, [0, 2]), (17, [0, 2, 3]), (71, [0, 2, 3]), (76, [0, 2, 3])] 1000 ?_
  show isC 149 6 ∧ 0 = 0 ∧ True ∧ V_X6_planTwo R 76 [(0, kR 149), (2, kI g), (3, kI s)] (updm μ 149 9 s)
  exact ⟨c_149, rfl, trivial, H⟩
set_option maxRecDepth 20000 in
theorem vc_X6_planTwo_76 {R : Mem → Option AV → Prop} {g s t : Int} {μ : Mem} (ht : isT t) (H : V_X6_planTwo R 17 [(0, kR 149), (2, kI g), (3, kI (s + 1))] μ) : V_X6_planTwo R 76 [(0, kR 149), (2, kI g), (3, kI s)] μ := by
  refine vm_step2 mt_X6_planTwo ok_X6_planTwo [(5, [0, 1]), (15, [0, 2]), (17, [0, 2, 3]), (71, [0, 2, 3]), (76, [0, 2, 3])] 1000 ?_
  show V_X6_planTwo R 17 [(0, kR 149), (2, kI g), (3, kI (s + 1))] μ
  exact H
theorem body_X6_planTwo {o t : Int} {μ : Mem} {R : Mem → Option AV → Prop} (h : P_X6_planTwo o t μ) (hR : ∀ μ' : Mem, Q_X6_planTwo o t μ μ' → R μ' none) : V_X6_planTwo R 0 [(0, kR o), (1, kR t)] μ := by
  obtain ⟨rfl, hr⟩ := h
  have ht := hr.1.1
  have ok := hr.1.2
  have hj := hr.2.2.1
  have hp : 2 ≤ μ t 1 ∧ μ t 1 ≤ 8 := ok.1
  have hpe : tv μ t 0 0 = μ t 1 := rfl
  have hT := isT_hi ht
  have hb := away_bd ok
  have fr : ∀ {m : Mem}, (∀ z : Int, (z < 149 ∨ 155 < z) → m z = μ z) → ∀ z : Int, t ≤ z → z ≤ t + 9 → m z = μ z := fun h z z0 z1 => h z (by omega)
  refine vc_X6_planTwo_0 ht ⟨⟨rfl, hr⟩, fun m1 q1 => vc_X6_planTwo_5 ht ?_⟩
  have hr1 := TR_frame hr (fr q1.2)
  have ha1 := TR_away hr1
  have etv1 := tv_frame (fr q1.2)
  rw [ha1.1, etv1]
  refine ⟨ha1.2, vc_X6_planTwo_15 ht ?_⟩
  obtain ⟨⟨w1, w2, w3⟩, wf⟩ := q1
  have cbd : ∀ s : Int, 0 ≤ s → s < 256 → 0 ≤ rcV (wayV (tv μ t)) (sumV (tv μ t)) (tv μ t 0 0) 0 s ∧ rcV (wayV (tv μ t)) (sumV (tv μ t)) (tv μ t 0 0) 0 s ≤ 307359360 := fun s s0 s1 => rc_bd ok hj (fun s _ _ => by have := sumV_bd ok (s := s); omega) (Int.le_refl _) (by omega) s0 s1
  have hrange : ∀ (n : Int), 1 ≤ n → n ≤ awayV (tv μ t) + 1 → (0 ≤ (twoV (tv μ t) n).2 ∧ (twoV (tv μ t) n).2 < n) ∧ 0 ≤ (twoV (tv μ t) n).1 ∧ (twoV (tv μ t) n).1 ≤ 614718720 := by
    intro n n0 n1
    rcases mnF_cases (q := fun s => subB s (awayV (tv μ t))) (f := fun s => rcV (wayV (tv μ t)) (sumV (tv μ t)) (tv μ t 0 0) 0 s + rcV (wayV (tv μ t)) (sumV (tv μ t)) (tv μ t 0 0) 0 (difS (awayV (tv μ t)) s)) (n := n) (by omega) with ⟨_, h⟩ | ⟨k, hk, e, _⟩
    · have := h 0 (Int.le_refl _) (by omega)
      rw [subB_0] at this; cases this
    · unfold twoV
      rw [e]
      have h1 := cbd k hk.1 (by omega)
      have hd := difS_bd (g := awayV (tv μ t)) (s := k) hb.1
      have h2 := cbd (difS (awayV (tv μ t)) k) hd.1 (by omega)
      exact ⟨hk, by show 0 ≤ _ + _; omega, by show _ + _ ≤ 614718720; omega⟩
  have key : ∀ s : Int, 1 ≤ s → s ≤ awayV (tv μ t) + 1 → ∀ m : Mem, (∀ z : Int, (z < 149 ∨ 155 < z) → m z = μ z) → m 153 = m1 153 → m 149 7 = (twoV (tv μ t) s).1 → m 149 9 = (twoV (tv μ t) s).2 → V_X6_planTwo R 17 [(0, kR 149), (2, kI (awayV (tv μ t))), (3, kI s)] m := by
    refine up_ind (P := fun s => ∀ m : Mem, (∀ z : Int, (z < 149 ∨ 155 < z) → m z = μ z) → m 153 = m1 153 → m 149 7 = (twoV (tv μ t) s).1 → m 149 9 = (twoV (tv μ t) s).2 → V_X6_planTwo R 17 [(0, kR 149), (2, kI (awayV (tv μ t))), (3, kI s)] m) ?_ ?_
    · intro s s0 s1 ih m hf h153 h7 h9
      have es : twoV (tv μ t) (s + 1) = if subB s (awayV (tv μ t)) = true ∧ ((twoV (tv μ t) s).2 < 0 ∨ rcV (wayV (tv μ t)) (sumV (tv μ t)) (tv μ t 0 0) 0 s + rcV (wayV (tv μ t)) (sumV (tv μ t)) (tv μ t 0 0) 0 (difS (awayV (tv μ t)) s) < (twoV (tv μ t) s).1) then (rcV (wayV (tv μ t)) (sumV (tv μ t)) (tv μ t 0 0) 0 s + rcV (wayV (tv μ t)) (sumV (tv μ t)) (tv μ t 0 0) 0 (difS (awayV (tv μ t)) s), s) else twoV (tv μ t) s := mnF_s (by omega)
      rw [es] at ih
      have hg := hrange s (by omega) (by omega)
      have hsb := b_difS (g := s) (s := awayV (tv μ t)) (by omega) (by omega) hb.1 hb.2
      have hsd := difS_bd (g := s) (s := awayV (tv μ t)) (by omega)
      refine vc_X6_planTwo_17 ht ?_
      rw [hsb]
      refine ⟨rr (by omega), rr (by omega), fun c => absurd c (by omega), fun _ => ⟨rr (by omega), fun c => ?_, fun c => ?_⟩⟩
      · rw [if_neg (fun q => c (of_decide_eq_true q.1))] at ih
        exact vc_X6_planTwo_76 ht (ih m hf h153 h7 h9)
      · have hq : subB s (awayV (tv μ t)) = true := decide_eq_true (by omega)
        have hs := (subB_iff (by omega) (by omega) hb.1 hb.2).mp hq
        have hd := difS_bd (g := awayV (tv μ t)) (s := s) hb.1
        rw [b_xdif hb.1 hb.2 (by omega) (by omega) hs, h153, w3 s (by omega) (by omega) hs, w3 _ hd.1 (by omega) sub_dif, h7]
        have h1 := cbd s (by omega) (by omega)
        have h2 := cbd (difS (awayV (tv μ t)) s) hd.1 (by omega)
        refine ⟨by omega, by omega, rr (by omega), rr (by omega), fun c2 => ?_, fun c2 => ⟨by omega, by omega, vc_X6_planTwo_71 ht (vc_X6_planTwo_76 ht ?_)⟩⟩
        · rw [if_neg (fun q => q.2.elim (by omega) (by omega))] at ih
          exact vc_X6_planTwo_76 ht (ih m hf h153 h7 h9)
        · rw [if_pos ⟨hq, Or.inr (by omega)⟩] at ih
          exact ih _ (fun z hz => by rw [ru_ne (by omega), ru_ne (by omega)]; exact hf z hz) (by rw [ru_ne (by omega), ru_ne (by omega)]; exact h153) (by rw [ru_eq, r1_ne (by omega), ru_eq, r1_eq]) (by rw [ru_eq, r1_eq])
    · intro m hf h153 h7 h9
      exact vc_X6_planTwo_17 ht ⟨rr (by omega), rr (by omega), fun _ => hR m ⟨⟨h7, h9⟩, hf⟩, fun c => absurd (show awayV (tv μ t) < awayV (tv μ t) + 1 by omega) c⟩
  have e1 : twoV (tv μ t) 1 = (rcV (wayV (tv μ t)) (sumV (tv μ t)) (tv μ t 0 0) 0 (awayV (tv μ t)), 0) := by
    have : twoV (tv μ t) (0 + 1) = _ := mnF_s (Int.le_refl _)
    rw [show (0 : Int) + 1 = 1 from rfl] at this
    rw [this, if_pos ⟨subB_0, Or.inl (by show (-1 : Int) < 0; omega)⟩]
    have hd : difS (awayV (tv μ t)) 0 = awayV (tv μ t) := by
      have hdb := difS_bd (g := awayV (tv μ t)) (s := 0) hb.1
      refine set_ext hdb.1 (by omega) hb.1 hb.2 (fun a _ _ => ?_)
      rw [difS_has, has_0]; simp
    rw [hd]
    have : rcV (wayV (tv μ t)) (sumV (tv μ t)) (tv μ t 0 0) 0 0 = 0 := rfl
    rw [this, Int.zero_add]
  refine key 1 (by omega) (by omega) _ (fun z hz => by rw [ru_ne (by omega)]; exact wf z hz) (ru_ne (by omega)) ?_ ?_
  · rw [ru_eq, r1_ne (by omega), w1, e1]
  · rw [ru_eq, r1_eq, e1]
theorem ct_X6_planTwo : Ct mX6_planTwo 4 96 0 0 (nrmS S_X6_planTwo) := by
  refine ct_vm (own := RX6) (by decide +kernel) rfl ?_ ?_
  · intro as μ Q hS
    unfold S_X6_planTwo at hS
    split at hS
    · exact Nat.le_of_ble_eq_true rfl
    · exact hS.elim
  · intro as μ R hS
    unfold S_X6_planTwo at hS
    split at hS
    · exact body_X6_planTwo hS.1 hS.2
    · exact hS.elim
/-- two barrels: what a minute costs -/
def barV (v : TV) (w : Int) (s : Int) : Int := if w = 0 then coupV v s else coupV v (cellV v) - coupV v (difS (cellV v) s)
theorem barV_bd {v : TV} (ok : TVok v) (w : Int) {s : Int} : 0 ≤ barV v w s ∧ barV v w s ≤ 274428 := by
  have h1 := coup_bd ok (s := s)
  have h2 := coup_bd ok (s := cellV v)
  have h3 := coup_le ok (s := difS (cellV v) s) (g := cellV v) (fun a _ _ h => by rw [difS_has] at h; exact (Bool.and_eq_true _ _ |>.mp h).1)
  unfold barV
  split <;> omega
def P_X6_planBarrels (o t w : Int) (μ : Mem) : Prop := o = 149 ∧ TR μ t ∧ r32 w
def Q_X6_planBarrels (_ t w : Int) (μ μ' : Mem) : Prop := WalkR μ' (tv μ t) (barV (tv μ t) w) ∧ ∀ z : Int, (z < 149 ∨ 155 < z) → μ' z = μ z
def S_X6_planBarrels : S0t := fun as μ Q => match as with
  | [(2, x0), (2, x1), (0, x2)] => P_X6_planBarrels x0 x1 x2 μ ∧ ∀ (μ' : Mem) , Q_X6_planBarrels x0 x1 x2 μ μ'  → Q μ' none
  | _ => False
theorem mono_X6_planBarrels : Mono S_X6_planBarrels := by
  intro as μ Q Q' h hS
  unfold S_X6_planBarrels at hS ⊢
  split at hS
  · exact ⟨hS.1, fun μ' q => h _ _ (hS.2 _ q)⟩
  · exact hS.elim
def iX6_planBarrels : Inf := (kX6_planBarrels, fTX6, pTX6, cTX6, lTX6, sTX6, [(34, 0, 1, 6, S_X6_sumUp), (52, 0, 0, 7, S_X7_cellarsAway), (56, 0, 3, 6, S_X6_fillCosts), (63, 0, 2, 6, S_X6_trace)])
theorem ok_X6_planBarrels : infOK iX6_planBarrels mX6_planBarrels RX6 3 75 := ⟨kkX6_planBarrels, fTX6_ok, pTX6_ok _, cTX6_ok, lTX6_ok, sTX6_ok, c_cons ⟨mX6_sumUp, 2, 42, ct_X6_sumUp, mmX6_sumUp, vvX6_sumUp, lkX6_34, ⟨by decide, by decide⟩, ⟨_, _, rfl⟩, by decide, mono_X6_sumUp⟩ (c_cons ⟨mX7_cellarsAway, 0, 0, ct_X7_cellarsAway, mmX7_cellarsAway, vvX7_cellarsAway, lkX6_52, ⟨by decide, by decide⟩, ⟨_, _, rfl⟩, by decide, mono_X7_cellarsAway⟩ (c_cons ⟨mX6_fillCosts, 2, 50, ct_X6_fillCosts, mmX6_fillCosts, vvX6_fillCosts, lkX6_56, ⟨by decide, by decide⟩, ⟨_, _, rfl⟩, by decide, mono_X6_fillCosts⟩ (c_cons ⟨mX6_trace, 2, 48, ct_X6_trace, mmX6_trace, vvX6_trace, lkX6_63, ⟨by decide, by decide⟩, ⟨_, _, rfl⟩, by decide, mono_X6_trace⟩ (c_nil))))⟩
theorem mt_X6_planBarrels : mtOK [] RX6 3 75 := mt_nil
abbrev V_X6_planBarrels (R : Mem → Option AV → Prop) (pc : Nat) (lc : List (Nat × AV)) (μ : Mem) : Prop := VM mX6_planBarrels RX6 3 75 R pc lc [] μ
set_option maxRecDepth 20000 in
theorem vc_X6_planBarrels_0 {R : Mem → Option AV → Prop} {w t : Int} {μ : Mem} (ht : isT t) (H : P_X6_sumUp 149 t μ ∧ (∀ (μ1 : Mem), Q_X6_sumUp 149 t μ μ1 → V_X6_planBarrels R 5 [(0, kR 149), (1, kR t), (2, kI w)] μ1)) : V_X6_planBarrels R 0 [(0, kR 149), (1, kR t), (2, kI w)] μ := by
  refine vm_step2 mt_X6_planBarrels ok_X6_planBarrels [(5, [0, 1, 2]), (7, [0, 1, 2, 3]), (56, [0, 1, 2, 3]), (78, [0, 1]), (91, [0, 1])] 1000 ?_
  show isC 149 6 ∧ P_X6_sumUp 149 t μ ∧ (∀ (μ1 : Mem), Q_X6_sumUp 149 t μ μ1 → V_X6_planBarrels R 5 [(0, kR 149), (1, kR t), (2, kI w)] μ1)
  exact ⟨c_149, H.1, fun μ1 hq3 => (H.2 μ1 hq3)⟩
set_option maxRecDepth 20000 in
theorem vc_X6_planBarrels_5 {R : Mem → Option AV → Prop} {w t : Int} {μ : Mem} (ht : isT t) (H : V_X6_planBarrels R 7 [(0, kR 149), (1, kR t), (2, kI w), (3, kI 0)] μ) : V_X6_planBarrels R 5 [(0, kR 149), (1, kR t), (2, kI w)] μ := by
  refine vm_step2 mt_X6_planBarrels ok_X6_planBarrels [(5, [0, 1, 2]), (7, [0, 1, 2, 3]), (56, [0, 1, 2, 3]), (78, [0, 1]), (91, [0, 1])] 1000 ?_
  show V_X6_planBarrels R 7 [(0, kR 149), (1, kR t), (2, kI w), (3, kI 0)] μ
  exact H
set_option maxRecDepth 20000 in
theorem vc_X6_planBarrels_7 {R : Mem → Option AV → Prop} {w s t : Int} {μ : Mem} (ht : isT t) (H : r32 s ∧ (((256 : Int) ≤ s) → P_X7_cellarsAway t μ ∧ P_X6_fillCosts 149 (t + 2) (μ t 1) (F_X7_cellarsAway t μ) μ ∧ (∀ (μ4 : Mem), Q_X6_fillCosts 149 (t + 2) (μ t 1) (F_X7_cellarsAway t μ) μ μ4 → V_X6_planBarrels R 78 [(0, kR 149), (1, kR t)] μ4)) ∧ (¬ ((256 : Int) ≤ s) → r32 w ∧ ((w = 0) → (0 ≤ s ∧ s < 256) ∧ (0 ≤ s ∧ s < 256) ∧ V_X6_planBarrels R 56 [(0, kR 149), (1, kR t), (2, kI w), (3, kI s)] (updm μ 152 s (μ 151 s))) ∧ (¬ (w = 0) → (0 ≤ (μ t 4) ∧ (μ t 4) < 256) ∧ (0 ≤ (band (μ t 4) (bxor s (-1))) ∧ (band (μ t 4) (bxor s (-1))) < 256) ∧ (0 ≤ s ∧ s < 256) ∧ V_X6_planBarrels R 56 [(0, kR 149), (1, kR t), (2, kI w), (3, kI s)] (updm μ 152 s ((μ 151 (μ t 4)) - (μ 151 (band (μ t 4) (bxor s (-1))))))))) : V_X6_planBarrels R 7 [(0, kR 149), (1, kR t), (2, kI w), (3, kI s)] μ := by
  refine vm_step2 mt_X6_planBarrels ok_X6_planBarrels [(5, [0, 1, 2]), (7, [0, 1, 2, 3]), (56, [0, 1, 2, 3]), (78, [0, 1]), (91, [0, 1])] 1000 ?_
  show (r32 s ∧ r32 (256 : Int)) ∧ (((256 : Int) ≤ s) → isC t 7 ∧ isC t 7 ∧ isC t 7 ∧ P_X7_cellarsAway t μ ∧ isC 149 6 ∧ P_X6_fillCosts 149 (t + 2) (μ t 1) (F_X7_cellarsAway t μ) μ ∧ (∀ (μ4 : Mem), Q_X6_fillCosts 149 (t + 2) (μ t 1) (F_X7_cellarsAway t μ) μ μ4 → V_X6_planBarrels R 78 [(0, kR 149), (1, kR t)] μ4)) ∧ (¬ ((256 : Int) ≤ s) → isC 149 6 ∧ r32 w ∧ ((w = 0) → isC 149 6 ∧ inA 151 0 s ∧ inA 152 0 s ∧ V_X6_planBarrels R 56 [(0, kR 149), (1, kR t), (2, kI w), (3, kI s)] (updm μ 152 s (μ 151 s))) ∧ (¬ (w = 0) → isC 149 6 ∧ isC t 7 ∧ inA 151 0 (μ t 4) ∧ isC 149 6 ∧ isC t 7 ∧ inA 151 0 (band (μ t 4) (bxor s (-1))) ∧ inA 152 0 s ∧ V_X6_planBarrels R 56 [(0, kR 149), (1, kR t), (2, kI w), (3, kI s)] (updm μ 152 s ((μ 151 (μ t 4)) - (μ 151 (band (μ t 4) (bxor s (-1))))))))
  exact ⟨⟨H.1, by unfold r32; omega⟩, fun hc8 => ⟨isT_C ht, ⟨isT_C ht, ⟨isT_C ht, (H.2.1 hc8).1, ⟨c_149, (H.2.1 hc8).2.1, fun μ4 hq6 => ((H.2.1 hc8).2.2 μ4 hq6)⟩⟩⟩⟩, fun hc8 => ⟨c_149, ⟨(H.2.2 hc8).1, fun hc7 => ⟨c_149, ⟨isArr.in a_151 ((H.2.2 hc8).2.1 hc7).1.1 ((H.2.2 hc8).2.1 hc7).1.2, ⟨isArr.in a_152 ((H.2.2 hc8).2.1 hc7).2.1.1 ((H.2.2 hc8).2.1 hc7).2.1.2, ((H.2.2 hc8).2.1 hc7).2.2⟩⟩⟩, fun hc7 => ⟨c_149, ⟨isT_C ht, ⟨isArr.in a_151 ((H.2.2 hc8).2.2 hc7).1.1 ((H.2.2 hc8).2.2 hc7).1.2, ⟨c_149, ⟨isT_C ht, ⟨isArr.in a_151 ((H.2.2 hc8).2.2 hc7).2.1.1 ((H.2.2 hc8).2.2 hc7).2.1.2, ⟨isArr.in a_152 ((H.2.2 hc8).2.2 hc7).2.2.1.1 ((H.2.2 hc8).2.2 hc7).2.2.1.2, ((H.2.2 hc8).2.2 hc7).2.2.2⟩⟩⟩⟩⟩⟩⟩⟩⟩⟩
set_option maxRecDepth 20000 in
theorem vc_X6_planBarrels_56 {R : Mem → Option AV → Prop} {w s t : Int} {μ : Mem} (ht : isT t) (H : V_X6_planBarrels R 7 [(0, kR 149), (1, kR t), (2, kI w), (3, kI (s + 1))] μ) : V_X6_planBarrels R 56 [(0, kR 149), (1, kR t), (2, kI w), (3, kI s)] μ := by
  refine vm_step2 mt_X6_planBarrels ok_X6_planBarrels [(5, [0, 1, 2]), (7, [0, 1, 2, 3]), (56, [0, 1, 2, 3]), (78, [0, 1]), (91, [0, 1])] 1000 ?_
  show V_X6_planBarrels R 7 [(0, kR 149), (1, kR t), (2, kI w), (3, kI (s + 1))] μ
  exact H
set_option maxRecDepth 20000 in
theorem vc_X6_planBarrels_78 {R : Mem → Option AV → Prop} {t : Int} {μ : Mem} (ht : isT t) (H : P_X7_cellarsAway t μ ∧ (0 ≤ (F_X7_cellarsAway t μ) ∧ (F_X7_cellarsAway t μ) < 2048) ∧ V_X6_planBarrels R 91 [(0, kR 149), (1, kR t)] (updm μ 149 7 (μ 153 (F_X7_cellarsAway t μ)))) : V_X6_planBarrels R 78 [(0, kR 149), (1, kR t)] μ := by
  refine vm_step2 mt_X6_planBarrels ok_X6_planBarrels [(5, [0, 1, 2]), (7, [0, 1, 2, 3]), (56, [0, 1, 2, 3]), (78, [0, 1]), (91, [0, 1])] 1000 ?_
  show isC 149 6 ∧ isC t 7 ∧ P_X7_cellarsAway t μ ∧ inA 153 0 (F_X7_cellarsAway t μ) ∧ isC 149 6 ∧ 0 = 0 ∧ True ∧ V_X6_planBarrels R 91 [(0, kR 149), (1, kR t)] (updm μ 149 7 (μ 153 (F_X7_cellarsAway t μ)))
  exact ⟨c_149, ⟨isT_C ht, H.1, ⟨isArr.in a_153 H.2.1.1 H.2.1.2, ⟨c_149, rfl, trivial, H.2.2⟩⟩⟩⟩
set_option maxRecDepth 20000 in
theorem vc_X6_planBarrels_91 {R : Mem → Option AV → Prop} {t : Int} {μ : Mem} (ht : isT t) (H : P_X7_cellarsAway t μ ∧ P_X6_trace 149 t (F_X7_cellarsAway t μ) μ ∧ (∀ (μ9 : Mem), Q_X6_trace 149 t (F_X7_cellarsAway t μ) μ μ9 → R μ9 none)) : V_X6_planBarrels R 91 [(0, kR 149), (1, kR t)] μ := by
  refine vm_step2 mt_X6_planBarrels ok_X6_planBarrels [(5, [0, 1, 2]), (7, [0, 1, 2, 3]), (56, [0, 1, 2, 3]), (78, [0, 1]), (91, [0, 1])] 1000 ?_
  show isC t 7 ∧ P_X7_cellarsAway t μ ∧ isC 149 6 ∧ P_X6_trace 149 t (F_X7_cellarsAway t μ) μ ∧ (∀ (μ9 : Mem), Q_X6_trace 149 t (F_X7_cellarsAway t μ) μ μ9 → R μ9 none)
  exact ⟨isT_C ht, H.1, ⟨c_149, H.2.1, fun μ9 hq11 => (H.2.2 μ9 hq11)⟩⟩
theorem body_X6_planBarrels {o t w : Int} {μ : Mem} {R : Mem → Option AV → Prop} (h : P_X6_planBarrels o t w μ) (hR : ∀ μ' : Mem, Q_X6_planBarrels o t w μ μ' → R μ' none) : V_X6_planBarrels R 0 [(0, kR o), (1, kR t), (2, kI w)] μ := by
  obtain ⟨rfl, hr, hw⟩ := h
  have ht := hr.1.1
  have ok := hr.1.2
  have hp : 2 ≤ μ t 1 ∧ μ t 1 ≤ 8 := ok.1
  have hT := isT_hi ht
  have hb := away_bd ok
  have hcb := cell_bd ok
  have fr : ∀ {m : Mem}, (∀ z : Int, (z < 149 ∨ 155 < z) → m z = μ z) → ∀ z : Int, t ≤ z → z ≤ t + 9 → m z = μ z := fun h z z0 z1 => h z (by omega)
  refine vc_X6_planBarrels_0 ht ⟨⟨rfl, hr.1⟩, fun m1 q1 => vc_X6_planBarrels_5 ht ?_⟩
  have key : ∀ s : Int, 0 ≤ s → s ≤ 256 → ∀ m : Mem, (∀ z : Int, (z < 149 ∨ 155 < z) → m z = μ z) → m 151 = m1 151 → (∀ s' : Int, 0 ≤ s' → s' < s → m 152 s' = barV (tv μ t) w s') → V_X6_planBarrels R 7 [(0, kR 149), (1, kR t), (2, kI w), (3, kI s)] m := by
    refine up_ind (P := fun s => ∀ m : Mem, (∀ z : Int, (z < 149 ∨ 155 < z) → m z = μ z) → m 151 = m1 151 → (∀ s' : Int, 0 ≤ s' → s' < s → m 152 s' = barV (tv μ t) w s') → V_X6_planBarrels R 7 [(0, kR 149), (1, kR t), (2, kI w), (3, kI s)] m) ?_ ?_
    · intro s s0 s1 ih m hf h151 hh
      have e4c : m t 4 = cellV (tv μ t) := by rw [hf t (by omega)]; exact hr.2.2.2.2.2
      have hd := difS_bd (g := cellV (tv μ t)) (s := s) hcb.1
      have nx : ∀ x : Int, x = barV (tv μ t) w s → V_X6_planBarrels R 56 [(0, kR 149), (1, kR t), (2, kI w), (3, kI s)] (updm m 152 s x) := by
        intro x hx
        refine vc_X6_planBarrels_56 ht (ih _ (fun z hz => by rw [ru_ne (by omega)]; exact hf z hz) (by rw [ru_ne (by omega)]; exact h151) (fun s' x0 x1 => ?_))
        rw [ru_eq]
        by_cases he : s' = s
        · rw [he, r1_eq, hx]
        · rw [r1_ne he]; exact hh s' x0 (by omega)
      refine vc_X6_planBarrels_7 ht ?_
      rw [e4c, b_difS hcb.1 hcb.2 s0 s1, h151]
      refine ⟨rr (by omega), fun c => absurd c (by omega), fun _ => ⟨hw, fun c => ⟨by omega, by omega, ?_⟩, fun c => ⟨by omega, by omega, by omega, ?_⟩⟩⟩
      · refine nx _ ?_
        unfold barV
        rw [if_pos c, (q1.1 s s0 s1).2]
      · refine nx _ ?_
        unfold barV
        rw [if_neg c, (q1.1 _ hcb.1 hcb.2).2, (q1.1 _ hd.1 (by omega)).2]
    · intro m hf h151 hh
      have etv := tv_frame (fr hf)
      have hr2 := TR_frame hr (fr hf)
      have ha2 := TR_away hr2
      have rt2 : RateR m := fun s x0 x1 => by rw [hh s x0 x1]; exact barV_bd ok w
      refine vc_X6_planBarrels_7 ht ⟨rr (by omega), fun _ => ?_, fun c => absurd (Int.le_refl _) c⟩
      rw [ha2.1]
      refine ⟨ha2.2, walk_fill hr2 rt2, fun m3 q3 => vc_X6_planBarrels_78 ht ?_⟩
      have c3 := walk_cost hr2 q3
      rw [etv] at c3
      have f3 : ∀ z : Int, (z < 149 ∨ 155 < z) → m3 z = μ z := fun z hz => by rw [q3.2 z (by omega)]; exact hf z hz
      have hr3 := TR_frame hr (fr f3)
      have ha3 := TR_away hr3
      have etv3 := tv_frame (fr f3)
      rw [ha3.1, etv3]
      refine ⟨ha3.2, by omega, vc_X6_planBarrels_91 ht ?_⟩
      have f4 : ∀ z : Int, (z < 149 ∨ 155 < z) → updm m3 149 7 (m3 153 (awayV (tv μ t))) z = μ z := fun z hz => by rw [ru_ne (by omega)]; exact f3 z hz
      have x7 : updm m3 149 7 (m3 153 (awayV (tv μ t))) 149 7 = updm m3 149 7 (m3 153 (awayV (tv μ t))) 153 (awayV (tv μ t)) := by rw [ru_eq, r1_eq, ru_ne (by omega)]
      have x152 : updm m3 149 7 (m3 153 (awayV (tv μ t))) 152 = m3 152 := ru_ne (by omega)
      have x153 : updm m3 149 7 (m3 153 (awayV (tv μ t))) 153 = m3 153 := ru_ne (by omega)
      generalize updm m3 149 7 (m3 153 (awayV (tv μ t))) = m4 at f4 x7 x152 x153
      have hr4 := TR_frame hr (fr f4)
      have ha4 := TR_away hr4
      have etv4 := tv_frame (fr f4)
      have c4 : CostR m4 (wayV (tv μ t)) (tv μ t 0 0) (awayV (tv μ t)) := by
        unfold CostR
        rw [x152, x153]
        exact c3
      have s4 : ∀ s : Int, 0 ≤ s → s < 256 → m4 152 s = barV (tv μ t) w s := fun s x0 x1 => by rw [x152, q3.2 152 (by omega)]; exact hh s x0 x1
      rw [ha4.1, etv4]
      exact ⟨ha4.2, ⟨rfl, hr4.1, hr4.2.1, hb, by rw [etv4]; exact away_in ok, fun s x0 x1 => by rw [s4 s x0 x1]; exact barV_bd ok w, by rw [etv4]; exact c4⟩, fun m5 q5 => hR m5 (walk_end hr f4 c4 s4 x7 q5)⟩
  exact key 0 (by omega) (by omega) m1 (fun z hz => q1.2 z (by omega) (by omega)) rfl (fun s' x0 x1 => absurd x0 (by omega))
theorem ct_X6_planBarrels : Ct mX6_planBarrels 3 75 0 0 (nrmS S_X6_planBarrels) := by
  refine ct_vm (own := RX6) (by decide +kernel) rfl ?_ ?_
  · intro as μ Q hS
    unfold S_X6_planBarrels at hS
    split at hS
    · exact Nat.le_of_ble_eq_true rfl
    · exact hS.elim
  · intro as μ R hS
    unfold S_X6_planBarrels at hS
    split at hS
    · exact body_X6_planBarrels hS.1 hS.2
    · exact hS.elim
