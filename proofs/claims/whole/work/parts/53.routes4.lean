/-- a lane more: which, and the least cost then; lanes are told by 8 a + b -/
def newB (v : TV) (j : Int) : Bool := decide (j / 8 < j % 8 ∧ j % 8 < v 0 0 ∧ v 7 j = 0)
def moreV (v : TV) (k : Int) : Int → Int × Int := mnF (newB v) (fun j => rcV (widV (wayV v) (j / 8) (j % 8) k) (sumV v) (v 0 0) 0 (awayV v))
def P_X6_planMore (o t k : Int) (μ : Mem) : Prop := o = 149 ∧ TR μ t ∧ (1 ≤ k ∧ k ≤ 20)
def MoreR (μ : Mem) (M : Int × Int) : Prop := (M.2 < 0 → μ 149 10 = -1) ∧ (0 ≤ M.2 → μ 149 7 = M.1 ∧ μ 149 10 = M.2 / 8 ∧ μ 149 11 = M.2 % 8)
def Q_X6_planMore (_ t k : Int) (μ μ' : Mem) (r : Int) : Prop := r = (if (moreV (tv μ t) k (8 * tv μ t 0 0)).2 < 0 then 0 else 1) ∧ MoreR μ' (moreV (tv μ t) k (8 * tv μ t 0 0)) ∧ ∀ z : Int, (z < 149 ∨ 155 < z) → μ' z = μ z
theorem mnF_skip {q : Int → Bool} {f : Int → Int} {n n' : Int} (h0 : 0 ≤ n) (h1 : n ≤ n') (h : ∀ b, n ≤ b → b < n' → q b = false) : mnF q f n' = mnF q f n := by
  have := nat_ind (P := fun j => n + j ≤ n' → mnF q f (n + j) = mnF q f n) (fun _ => by rw [Int.add_zero]) (fun i i0 ih hi => by
    rw [← Int.add_assoc, mnF_s (by omega), h (n + i) (by omega) (by omega), if_neg (fun c => by simp at c)]
    exact ih (by omega)) (n' - n) (by omega) (by omega)
  have e : n + (n' - n) = n' := by omega
  rwa [e] at this
theorem wid_bd {v : TV} (ok : TVok v) (hj : joined v) {p q k a b : Int} (hk : 0 ≤ k) (p0 : 0 ≤ p) (p1 : p < v 0 0) (q0 : 0 ≤ q) (q1 : q < v 0 0) (a0 : 0 ≤ a) (a1 : a < v 0 0) (b0 : 0 ≤ b) (b1 : b < v 0 0) : 0 ≤ widV (wayV v) p q k a b ∧ widV (wayV v) p q k a b ≤ 140 := by
  have h1 := way_bd ok hj a0 a1 b0 b1
  have h2 := way_bd ok hj a0 a1 p0 p1
  have h3 := way_bd ok hj a0 a1 q0 q1
  have h4 := way_bd ok hj p0 p1 b0 b1
  have h5 := way_bd ok hj q0 q1 b0 b1
  unfold widV
  omega
def S_X6_planMore : S0t := fun as μ Q => match as with
  | [(2, x0), (2, x1), (0, x2)] => P_X6_planMore x0 x1 x2 μ ∧ ∀ (μ' : Mem) (r : Int), Q_X6_planMore x0 x1 x2 μ μ' r → Q μ' (some (kI r))
  | _ => False
theorem mono_X6_planMore : Mono S_X6_planMore := by
  intro as μ Q Q' h hS
  unfold S_X6_planMore at hS ⊢
  split at hS
  · exact ⟨hS.1, fun μ' r q => h _ _ (hS.2 _ _ q)⟩
  · exact hS.elim
def iX6_planMore : Inf := (kX6_planMore, fTX6, pTX6, cTX6, lTX6, sTX6, [(34, 0, 1, 6, S_X6_sumUp), (38, 2, 0, 0, S_copy), (82, 0, 2, 7, S_X7_hasLane), (86, 0, 4, 7, S_X7_widen), (52, 0, 0, 7, S_X7_cellarsAway), (56, 0, 3, 6, S_X6_fillCosts)])
theorem ok_X6_planMore : infOK iX6_planMore mX6_planMore RX6 3 75 := ⟨kkX6_planMore, fTX6_ok, pTX6_ok _, cTX6_ok, lTX6_ok, sTX6_ok, c_cons ⟨mX6_sumUp, 2, 42, ct_X6_sumUp, mmX6_sumUp, vvX6_sumUp, lkX6_34, ⟨by decide, by decide⟩, ⟨_, _, rfl⟩, by decide, mono_X6_sumUp⟩ (c_cons ⟨by decide, AC_X6_38, AC1, AC2, AC3, by decide, by decide⟩ (c_cons ⟨mX7_hasLane, 0, 0, ct_X7_hasLane, mmX7_hasLane, vvX7_hasLane, lkX6_82, ⟨by decide, by decide⟩, ⟨_, _, rfl⟩, by decide, mono_X7_hasLane⟩ (c_cons ⟨mX7_widen, 1, 21, ct_X7_widen, mmX7_widen, vvX7_widen, lkX6_86, ⟨by decide, by decide⟩, ⟨_, _, rfl⟩, by decide, mono_X7_widen⟩ (c_cons ⟨mX7_cellarsAway, 0, 0, ct_X7_cellarsAway, mmX7_cellarsAway, vvX7_cellarsAway, lkX6_52, ⟨by decide, by decide⟩, ⟨_, _, rfl⟩, by decide, mono_X7_cellarsAway⟩ (c_cons ⟨mX6_fillCosts, 2, 50, ct_X6_fillCosts, mmX6_fillCosts, vvX6_fillCosts, lkX6_56, ⟨by decide, by decide⟩, ⟨_, _, rfl⟩, by decide, mono_X6_fillCosts⟩ (c_nil))))))⟩
theorem mt_X6_planMore : mtOK [] RX6 3 75 := mt_nil
abbrev V_X6_planMore (R : Mem → Option AV → Prop) (pc : Nat) (lc : List (Nat × AV)) (μ : Mem) : Prop := VM mX6_planMore RX6 3 75 R pc lc [] μ
set_option maxRecDepth 20000 in
theorem vc_X6_planMore_0 {R : Mem → Option AV → Prop} {k t : Int} {μ : Mem} (ht : isT t) (H : P_X6_sumUp 149 t μ ∧ (∀ (μ1 : Mem), Q_X6_sumUp 149 t μ μ1 → V_X6_planMore R 5 [(0, kR 149), (1, kR t), (2, kI k)] μ1)) : V_X6_planMore R 0 [(0, kR 149), (1, kR t), (2, kI k)] μ := by
  refine vm_step2 mt_X6_planMore ok_X6_planMore [(5, [0, 1, 2]), (21, [0, 1, 2]), (26, [0, 1, 2]), (31, [0, 1, 2]), (33, [0, 1, 2, 3]), (46, [0, 1, 2, 3, 4]), (77, [0, 1, 2, 3, 4]), (93, [0, 1, 2, 3, 4]), (130, [0, 1, 2, 3, 4]), (135, [0, 1, 2, 3, 4]), (141, [0, 1, 2, 3, 4])] 1000 ?_
  show isC 149 6 ∧ P_X6_sumUp 149 t μ ∧ (∀ (μ1 : Mem), Q_X6_sumUp 149 t μ μ1 → V_X6_planMore R 5 [(0, kR 149), (1, kR t), (2, kI k)] μ1)
  exact ⟨c_149, H.1, fun μ1 hq3 => (H.2 μ1 hq3)⟩
set_option maxRecDepth 20000 in
theorem vc_X6_planMore_5 {R : Mem → Option AV → Prop} {k t : Int} {μ : Mem} (ht : isT t) (H : V_X6_planMore R 21 [(0, kR 149), (1, kR t), (2, kI k)] (seto μ 152 (cpy0 (μ 150) (μ 152) 256))) : V_X6_planMore R 5 [(0, kR 149), (1, kR t), (2, kI k)] μ := by
  refine vm_step2 mt_X6_planMore ok_X6_planMore [(5, [0, 1, 2]), (21, [0, 1, 2]), (26, [0, 1, 2]), (31, [0, 1, 2]), (33, [0, 1, 2, 3]), (46, [0, 1, 2, 3, 4]), (77, [0, 1, 2, 3, 4]), (93, [0, 1, 2, 3, 4]), (130, [0, 1, 2, 3, 4]), (135, [0, 1, 2, 3, 4]), (141, [0, 1, 2, 3, 4])] 1000 ?_
  show isC 149 6 ∧ isC 149 6 ∧ ((0 : Int) = 0 ∧ (0 : Int) = 0) ∧ ((0 ≤ (150 : Int) ∧ (150 : Int) < 232) ∧ (LAY (150 : Int).toNat).1 = 0) ∧ ((0 ≤ (152 : Int) ∧ (152 : Int) < 232) ∧ (LAY (152 : Int).toNat).1 = 0) ∧ (0 ≤ (256 : Int) ∧ (256 : Int) ≤ ((LAY (150 : Int).toNat).2 : Int) ∧ (256 : Int) ≤ ((LAY (152 : Int).toNat).2 : Int)) ∧ (0 = 2 → ∀ j : Int, 0 ≤ j → j < (256 : Int) → -128 ≤ μ 150 j ∧ μ 150 j ≤ 127) ∧ V_X6_planMore R 21 [(0, kR 149), (1, kR t), (2, kI k)] (seto μ 152 (cpy0 (μ 150) (μ 152) 256))
  exact ⟨c_149, ⟨c_149, ⟨⟨rfl, rfl⟩, ⟨a_150.1, a_150.k1⟩, ⟨a_152.1, a_152.k1⟩, cpl a_150 a_152 (⟨by omega, by omega⟩ : 0 ≤ (256 : Int) ∧ (256 : Int) ≤ 256) (by decide) (by decide), fun q => absurd q (by decide), H⟩⟩⟩
set_option maxRecDepth 20000 in
theorem vc_X6_planMore_21 {R : Mem → Option AV → Prop} {k t : Int} {μ : Mem} (ht : isT t) (H : V_X6_planMore R 26 [(0, kR 149), (1, kR t), (2, kI k)] (updm μ 149 10 (-1))) : V_X6_planMore R 21 [(0, kR 149), (1, kR t), (2, kI k)] μ := by
  refine vm_step2 mt_X6_planMore ok_X6_planMore [(5, [0, 1, 2]), (21, [0, 1, 2]), (26, [0, 1, 2]), (31, [0, 1, 2]), (33, [0, 1, 2, 3]), (46, [0, 1, 2, 3, 4]), (77, [0, 1, 2, 3, 4]), (93, [0, 1, 2, 3, 4]), (130, [0, 1, 2, 3, 4]), (135, [0, 1, 2, 3, 4]), (141, [0, 1, 2, 3, 4])] 1000 ?_
  show isC 149 6 ∧ 0 = 0 ∧ True ∧ V_X6_planMore R 26 [(0, kR 149), (1, kR t), (2, kI k)] (updm μ 149 10 (-1))
  exact ⟨c_149, rfl, trivial, H⟩
set_option maxRecDepth 20000 in
theorem vc_X6_planMore_26 {R : Mem → Option AV → Prop} {k t : Int} {μ : Mem} (ht : isT t) (H : V_X6_planMore R 31 [(0, kR 149), (1, kR t), (2, kI k)] (updm μ 149 11 (-1))) : V_X6_planMore R 26 [(0, kR 149), (1, kR t), (2, kI k)] μ := by
  refine vm_step2 mt_X6_planMore ok_X6_planMore [(5, [0, 1, 2]), (21, [0, 1, 2]), (26, [0, 1, 2]), (31, [0, 1, 2]), (33, [0, 1, 2, 3]), (46, [0, 1, 2, 3, 4]), (77, [0, 1, 2, 3, 4]), (93, [0, 1, 2, 3, 4]), (130, [0, 1, 2, 3, 4]), (135, [0, 1, 2, 3, 4]), (141, [0, 1, 2, 3, 4])] 1000 ?_
  show isC 149 6 ∧ 0 = 0 ∧ True ∧ V_X6_planMore R 31 [(0, kR 149), (1, kR t), (2, kI k)] (updm μ 149 11 (-1))
  exact ⟨c_149, rfl, trivial, H⟩
set_option maxRecDepth 20000 in
theorem vc_X6_planMore_31 {R : Mem → Option AV → Prop} {k t : Int} {μ : Mem} (ht : isT t) (H : V_X6_planMore R 33 [(0, kR 149), (1, kR t), (2, kI k), (3, kI 0)] μ) : V_X6_planMore R 31 [(0, kR 149), (1, kR t), (2, kI k)] μ := by
  refine vm_step2 mt_X6_planMore ok_X6_planMore [(5, [0, 1, 2]), (21, [0, 1, 2]), (26, [0, 1, 2]), (31, [0, 1, 2]), (33, [0, 1, 2, 3]), (46, [0, 1, 2, 3, 4]), (77, [0, 1, 2, 3, 4]), (93, [0, 1, 2, 3, 4]), (130, [0, 1, 2, 3, 4]), (135, [0, 1, 2, 3, 4]), (141, [0, 1, 2, 3, 4])] 1000 ?_
  show V_X6_planMore R 33 [(0, kR 149), (1, kR t), (2, kI k), (3, kI 0)] μ
  exact H
set_option maxRecDepth 20000 in
theorem vc_X6_planMore_33 {R : Mem → Option AV → Prop} {k a t : Int} {μ : Mem} (ht : isT t) (H : r32 a ∧ r32 (μ t 1) ∧ (((μ t 1) ≤ a) → r32 (μ 149 10) ∧ (((μ 149 10) = (-1 : Int)) → R μ (some (kI 0))) ∧ (¬ ((μ 149 10) = (-1 : Int)) → R μ (some (kI 1)))) ∧ (¬ ((μ t 1) ≤ a) → V_X6_planMore R 46 [(0, kR 149), (1, kR t), (2, kI k), (3, kI a), (4, kI (a + 1))] μ)) : V_X6_planMore R 33 [(0, kR 149), (1, kR t), (2, kI k), (3, kI a)] μ := by
  refine vm_step2 mt_X6_planMore ok_X6_planMore [(5, [0, 1, 2]), (21, [0, 1, 2]), (26, [0, 1, 2]), (31, [0, 1, 2]), (33, [0, 1, 2, 3]), (46, [0, 1, 2, 3, 4]), (77, [0, 1, 2, 3, 4]), (93, [0, 1, 2, 3, 4]), (130, [0, 1, 2, 3, 4]), (135, [0, 1, 2, 3, 4]), (141, [0, 1, 2, 3, 4])] 1000 ?_
  show isC t 7 ∧ (r32 a ∧ r32 (μ t 1)) ∧ (((μ t 1) ≤ a) → isC 149 6 ∧ (r32 (μ 149 10) ∧ r32 (-1 : Int)) ∧ (((μ 149 10) = (-1 : Int)) → (0 ≤ (0 : Int) ∧ (0 : Int) ≤ 1) ∧ R μ (some (kI 0))) ∧ (¬ ((μ 149 10) = (-1 : Int)) → (0 ≤ (1 : Int) ∧ (1 : Int) ≤ 1) ∧ R μ (some (kI 1)))) ∧ (¬ ((μ t 1) ≤ a) → V_X6_planMore R 46 [(0, kR 149), (1, kR t), (2, kI k), (3, kI a), (4, kI (a + 1))] μ)
  exact ⟨isT_C ht, ⟨⟨H.1, H.2.1⟩, fun hc5 => ⟨c_149, ⟨⟨(H.2.2.1 hc5).1, by unfold r32; omega⟩, fun hc4 => ⟨⟨by omega, by omega⟩, ((H.2.2.1 hc5).2.1 hc4)⟩, fun hc4 => ⟨⟨by omega, by omega⟩, ((H.2.2.1 hc5).2.2 hc4)⟩⟩⟩, fun hc5 => (H.2.2.2 hc5)⟩⟩
set_option maxRecDepth 20000 in
theorem vc_X6_planMore_46 {R : Mem → Option AV → Prop} {k a b t : Int} {μ : Mem} (ht : isT t) (H : r32 b ∧ r32 (μ t 1) ∧ (((μ t 1) ≤ b) → V_X6_planMore R 33 [(0, kR 149), (1, kR t), (2, kI k), (3, kI (a + 1))] μ) ∧ (¬ ((μ t 1) ≤ b) → P_X7_hasLane t a b μ ∧ r32 (F_X7_hasLane t a b μ) ∧ ((¬ (F_X7_hasLane t a b μ) = 0) → V_X6_planMore R 141 [(0, kR 149), (1, kR t), (2, kI k), (3, kI a), (4, kI b)] μ) ∧ (¬ (¬ (F_X7_hasLane t a b μ) = 0) → P_X7_widen t a b k 154 μ ∧ (∀ (μ6 : Mem), Q_X7_widen t a b k 154 μ μ6 → V_X6_planMore R 77 [(0, kR 149), (1, kR t), (2, kI k), (3, kI a), (4, kI b)] μ6)))) : V_X6_planMore R 46 [(0, kR 149), (1, kR t), (2, kI k), (3, kI a), (4, kI b)] μ := by
  refine vm_step2 mt_X6_planMore ok_X6_planMore [(5, [0, 1, 2]), (21, [0, 1, 2]), (26, [0, 1, 2]), (31, [0, 1, 2]), (33, [0, 1, 2, 3]), (46, [0, 1, 2, 3, 4]), (77, [0, 1, 2, 3, 4]), (93, [0, 1, 2, 3, 4]), (130, [0, 1, 2, 3, 4]), (135, [0, 1, 2, 3, 4]), (141, [0, 1, 2, 3, 4])] 1000 ?_
  show isC t 7 ∧ (r32 b ∧ r32 (μ t 1)) ∧ (((μ t 1) ≤ b) → V_X6_planMore R 33 [(0, kR 149), (1, kR t), (2, kI k), (3, kI (a + 1))] μ) ∧ (¬ ((μ t 1) ≤ b) → isC t 7 ∧ P_X7_hasLane t a b μ ∧ r32 (F_X7_hasLane t a b μ) ∧ ((¬ (F_X7_hasLane t a b μ) = 0) → V_X6_planMore R 141 [(0, kR 149), (1, kR t), (2, kI k), (3, kI a), (4, kI b)] μ) ∧ (¬ (¬ (F_X7_hasLane t a b μ) = 0) → isC 149 6 ∧ isC t 7 ∧ P_X7_widen t a b k 154 μ ∧ (∀ (μ6 : Mem), Q_X7_widen t a b k 154 μ μ6 → V_X6_planMore R 77 [(0, kR 149), (1, kR t), (2, kI k), (3, kI a), (4, kI b)] μ6)))
  exact ⟨isT_C ht, ⟨⟨H.1, H.2.1⟩, fun hc10 => (H.2.2.1 hc10), fun hc10 => ⟨isT_C ht, (H.2.2.2 hc10).1, ⟨(H.2.2.2 hc10).2.1, fun hc9 => ((H.2.2.2 hc10).2.2.1 hc9), fun hc9 => ⟨c_149, ⟨isT_C ht, ((H.2.2.2 hc10).2.2.2 hc9).1, fun μ6 hq8 => (((H.2.2.2 hc10).2.2.2 hc9).2 μ6 hq8)⟩⟩⟩⟩⟩⟩
set_option maxRecDepth 20000 in
theorem vc_X6_planMore_77 {R : Mem → Option AV → Prop} {k a b t : Int} {μ : Mem} (ht : isT t) (H : P_X7_cellarsAway t μ ∧ P_X6_fillCosts 149 154 (μ t 1) (F_X7_cellarsAway t μ) μ ∧ (∀ (μ11 : Mem), Q_X6_fillCosts 149 154 (μ t 1) (F_X7_cellarsAway t μ) μ μ11 → V_X6_planMore R 93 [(0, kR 149), (1, kR t), (2, kI k), (3, kI a), (4, kI b)] μ11)) : V_X6_planMore R 77 [(0, kR 149), (1, kR t), (2, kI k), (3, kI a), (4, kI b)] μ := by
  refine vm_step2 mt_X6_planMore ok_X6_planMore [(5, [0, 1, 2]), (21, [0, 1, 2]), (26, [0, 1, 2]), (31, [0, 1, 2]), (33, [0, 1, 2, 3]), (46, [0, 1, 2, 3, 4]), (77, [0, 1, 2, 3, 4]), (93, [0, 1, 2, 3, 4]), (130, [0, 1, 2, 3, 4]), (135, [0, 1, 2, 3, 4]), (141, [0, 1, 2, 3, 4])] 1000 ?_
  show isC 149 6 ∧ isC t 7 ∧ isC t 7 ∧ P_X7_cellarsAway t μ ∧ isC 149 6 ∧ P_X6_fillCosts 149 154 (μ t 1) (F_X7_cellarsAway t μ) μ ∧ (∀ (μ11 : Mem), Q_X6_fillCosts 149 154 (μ t 1) (F_X7_cellarsAway t μ) μ μ11 → V_X6_planMore R 93 [(0, kR 149), (1, kR t), (2, kI k), (3, kI a), (4, kI b)] μ11)
  exact ⟨c_149, ⟨isT_C ht, ⟨isT_C ht, H.1, ⟨c_149, H.2.1, fun μ11 hq13 => (H.2.2 μ11 hq13)⟩⟩⟩⟩
set_option maxRecDepth 20000 in
theorem vc_X6_planMore_93 {R : Mem → Option AV → Prop} {k a b t : Int} {μ : Mem} (ht : isT t) (H : r32 (μ 149 10) ∧ (((μ 149 10) = (-1 : Int)) → P_X7_cellarsAway t μ ∧ (0 ≤ (F_X7_cellarsAway t μ) ∧ (F_X7_cellarsAway t μ) < 2048) ∧ V_X6_planMore R 130 [(0, kR 149), (1, kR t), (2, kI k), (3, kI a), (4, kI b)] (updm μ 149 7 (μ 153 (F_X7_cellarsAway t μ)))) ∧ (¬ ((μ 149 10) = (-1 : Int)) → P_X7_cellarsAway t μ ∧ (0 ≤ (F_X7_cellarsAway t μ) ∧ (F_X7_cellarsAway t μ) < 2048) ∧ r32 (μ 153 (F_X7_cellarsAway t μ)) ∧ r32 (μ 149 7) ∧ (((μ 149 7) ≤ (μ 153 (F_X7_cellarsAway t μ))) → V_X6_planMore R 141 [(0, kR 149), (1, kR t), (2, kI k), (3, kI a), (4, kI b)] μ) ∧ (¬ ((μ 149 7) ≤ (μ 153 (F_X7_cellarsAway t μ))) → P_X7_cellarsAway t μ ∧ (0 ≤ (F_X7_cellarsAway t μ) ∧ (F_X7_cellarsAway t μ) < 2048) ∧ V_X6_planMore R 130 [(0, kR 149), (1, kR t), (2, kI k), (3, kI a), (4, kI b)] (updm μ 149 7 (μ 153 (F_X7_cellarsAway t μ)))))) : V_X6_planMore R 93 [(0, kR 149), (1, kR t), (2, kI k), (3, kI a), (4, kI b)] μ := by
  refine vm_step2 mt_X6_planMore ok_X6_planMore [(5, [0, 1, 2]), (21, [0, 1, 2]), (26, [0, 1, 2]), (31, [0, 1, 2]), (33, [0, 1, 2, 3]), (46, [0, 1, 2, 3, 4]), (77, [0, 1, 2, 3, 4]), (93, [0, 1, 2, 3, 4]), (130, [0, 1, 2, 3, 4]), (135, [0, 1, 2, 3, 4]), (141, [0, 1, 2, 3, 4])] 1000 ?_
  show isC 149 6 ∧ (r32 (μ 149 10) ∧ r32 (-1 : Int)) ∧ (((μ 149 10) = (-1 : Int)) → isC 149 6 ∧ isC t 7 ∧ P_X7_cellarsAway t μ ∧ inA 153 0 (F_X7_cellarsAway t μ) ∧ isC 149 6 ∧ 0 = 0 ∧ True ∧ V_X6_planMore R 130 [(0, kR 149), (1, kR t), (2, kI k), (3, kI a), (4, kI b)] (updm μ 149 7 (μ 153 (F_X7_cellarsAway t μ)))) ∧ (¬ ((μ 149 10) = (-1 : Int)) → isC 149 6 ∧ isC t 7 ∧ P_X7_cellarsAway t μ ∧ inA 153 0 (F_X7_cellarsAway t μ) ∧ isC 149 6 ∧ (r32 (μ 153 (F_X7_cellarsAway t μ)) ∧ r32 (μ 149 7)) ∧ (((μ 149 7) ≤ (μ 153 (F_X7_cellarsAway t μ))) → V_X6_planMore R 141 [(0, kR 149), (1, kR t), (2, kI k), (3, kI a), (4, kI b)] μ) ∧ (¬ ((μ 149 7) ≤ (μ 153 (F_X7_cellarsAway t μ))) → isC 149 6 ∧ isC t 7 ∧ P_X7_cellarsAway t μ ∧ inA 153 0 (F_X7_cellarsAway t μ) ∧ isC 149 6 ∧ 0 = 0 ∧ True ∧ V_X6_planMore R 130 [(0, kR 149), (1, kR t), (2, kI k), (3, kI a), (4, kI b)] (updm μ 149 7 (μ 153 (F_X7_cellarsAway t μ)))))
  exact ⟨c_149, ⟨⟨H.1, by unfold r32; omega⟩, fun hc15 => ⟨c_149, ⟨isT_C ht, (H.2.1 hc15).1, ⟨isArr.in a_153 (H.2.1 hc15).2.1.1 (H.2.1 hc15).2.1.2, ⟨c_149, rfl, trivial, (H.2.1 hc15).2.2⟩⟩⟩⟩, fun hc15 => ⟨c_149, ⟨isT_C ht, (H.2.2 hc15).1, ⟨isArr.in a_153 (H.2.2 hc15).2.1.1 (H.2.2 hc15).2.1.2, ⟨c_149, ⟨⟨(H.2.2 hc15).2.2.1, (H.2.2 hc15).2.2.2.1⟩, fun hc14 => ((H.2.2 hc15).2.2.2.2.1 hc14), fun hc14 => ⟨c_149, ⟨isT_C ht, ((H.2.2 hc15).2.2.2.2.2 hc14).1, ⟨isArr.in a_153 ((H.2.2 hc15).2.2.2.2.2 hc14).2.1.1 ((H.2.2 hc15).2.2.2.2.2 hc14).2.1.2, ⟨c_149, rfl, trivial, ((H.2.2 hc15).2.2.2.2.2 hc14).2.2⟩⟩⟩⟩⟩⟩⟩⟩⟩⟩⟩
set_option maxRecDepth 20000 in
theorem vc_X6_planMore_130 {R : Mem → Option AV → Prop} {k a b t : Int} {μ : Mem} (ht : isT t) (H : V_X6_planMore R 135 [(0, kR 149), (1, kR t), (2, kI k), (3, kI a), (4, kI b)] (updm μ 149 10 a)) : V_X6_planMore R 130 [(0, kR 149), (1, kR t), (2, kI k), (3, kI a), (4, kI b)] μ := by
  refine vm_step2 mt_X6_planMore ok_X6_planMore [(5, [0, 1, 2]), (21, [0, 1, 2]), (26, [0, 1, 2]), (31, [0, 1, 2]), (33, [0, 1, 2, 3]), (46, [0, 1, 2, 3, 4]), (77, [0, 1, 2, 3, 4]), (93, [0, 1, 2, 3, 4]), (130, [0, 1, 2, 3, 4]), (135, [0, 1, 2, 3, 4]), (141, [0, 1, 2, 3, 4])] 1000 ?_
  show isC 149 6 ∧ 0 = 0 ∧ True ∧ V_X6_planMore R 135 [(0, kR 149), (1, kR t), (2, kI k), (3, kI a), (4, kI b)] (updm μ 149 10 a)
  exact ⟨c_149, rfl, trivial, H⟩
set_option maxRecDepth 20000 in
theorem vc_X6_planMore_135 {R : Mem → Option AV → Prop} {k a b t : Int} {μ : Mem} (ht : isT t) (H : V_X6_planMore R 141 [(0, kR 149), (1, kR t), (2, kI k), (3, kI a), (4, kI b)] (updm μ 149 11 b)) : V_X6_planMore R 135 [(0, kR 149), (1, kR t), (2, kI k), (3, kI a), (4, kI b)] μ := by
  refine vm_step2 mt_X6_planMore ok_X6_planMore [(5, [0, 1, 2]), (21, [0, 1, 2]), (26, [0, 1, 2]), (31, [0, 1, 2]), (33, [0, 1, 2, 3]), (46, [0, 1, 2, 3, 4]), (77, [0, 1, 2, 3, 4]), (93, [0, 1, 2, 3, 4]), (130, [0, 1, 2, 3, 4]), (135, [0, 1, 2, 3, 4]), (141, [0, 1, 2, 3, 4])] 1000 ?_
  show isC 149 6 ∧ 0 = 0 ∧ True ∧ V_X6_planMore R 141 [(0, kR 149), (1, kR t), (2, kI k), (3, kI a), (4, kI b)] (updm μ 149 11 b)
  exact ⟨c_149, rfl, trivial, H⟩
set_option maxRecDepth 20000 in
theorem vc_X6_planMore_141 {R : Mem → Option AV → Prop} {k a b t : Int} {μ : Mem} (ht : isT t) (H : V_X6_planMore R 46 [(0, kR 149), (1, kR t), (2, kI k), (3, kI a), (4, kI (b + 1))] μ) : V_X6_planMore R 141 [(0, kR 149), (1, kR t), (2, kI k), (3, kI a), (4, kI b)] μ := by
  refine vm_step2 mt_X6_planMore ok_X6_planMore [(5, [0, 1, 2]), (21, [0, 1, 2]), (26, [0, 1, 2]), (31, [0, 1, 2]), (33, [0, 1, 2, 3]), (46, [0, 1, 2, 3, 4]), (77, [0, 1, 2, 3, 4]), (93, [0, 1, 2, 3, 4]), (130, [0, 1, 2, 3, 4]), (135, [0, 1, 2, 3, 4]), (141, [0, 1, 2, 3, 4])] 1000 ?_
  show V_X6_planMore R 46 [(0, kR 149), (1, kR t), (2, kI k), (3, kI a), (4, kI (b + 1))] μ
  exact H
theorem body_X6_planMore {o t k : Int} {μ : Mem} {R : Mem → Option AV → Prop} (h : P_X6_planMore o t k μ) (hR : ∀ (μ' : Mem) (r : Int), Q_X6_planMore o t k μ μ' r → R μ' (some (kI r))) : V_X6_planMore R 0 [(0, kR o), (1, kR t), (2, kI k)] μ := by
  obtain ⟨rfl, hr, hk⟩ := h
  have ht := hr.1.1
  have ok := hr.1.2
  have hj := hr.2.2.1
  have hp : 2 ≤ μ t 1 ∧ μ t 1 ≤ 8 := ok.1
  have hpe : tv μ t 0 0 = μ t 1 := rfl
  have hT := isT_hi ht
  have hb := away_bd ok
  have fr : ∀ {m : Mem}, (∀ z : Int, (z < 149 ∨ 155 < z) → m z = μ z) → ∀ z : Int, t ≤ z → z ≤ t + 9 → m z = μ z := fun h z z0 z1 => h z (by omega)
  have srt : ∀ s : Int, 0 ≤ s → s < 256 → 0 ≤ sumV (tv μ t) s ∧ sumV (tv μ t) s ≤ 274428 := fun s _ _ => by have := sumV_bd ok (s := s); omega
  -- what a lane costs
  have fbd : ∀ a b : Int, 0 ≤ a → a < μ t 1 → 0 ≤ b → b < μ t 1 → 0 ≤ rcV (widV (wayV (tv μ t)) a b k) (sumV (tv μ t)) (μ t 1) 0 (awayV (tv μ t)) ∧ rcV (widV (wayV (tv μ t)) a b k) (sumV (tv μ t)) (μ t 1) 0 (awayV (tv μ t)) ≤ 307359360 := fun a b a0 a1 b0 b1 => by
    have h1 := rcV_bd (W := widV (wayV (tv μ t)) a b k) (r := sumV (tv μ t)) (n := μ t 1) (B := 274428) (by omega) hp.2 (by omega) (fun c d c0 c1 d0 d1 => wid_bd ok hj (by omega) a0 a1 b0 b1 c0 c1 d0 d1) srt 255 0 (awayV (tv μ t)) hb.1 hb.2 (by omega) ⟨Int.le_refl _, by omega⟩
    have h2 := popc_bd (s := awayV (tv μ t))
    have h3 : popc (awayV (tv μ t)) * (140 * 274428) ≤ 8 * (140 * 274428) := Int.mul_le_mul_of_nonneg_right h2.2 (by omega)
    omega
  have mbd : ∀ n : Int, 0 ≤ n → n ≤ 8 * μ t 1 → 0 ≤ (moreV (tv μ t) k n).1 ∧ (moreV (tv μ t) k n).1 ≤ 307359360 ∧ -1 ≤ (moreV (tv μ t) k n).2 ∧ (moreV (tv μ t) k n).2 < 64 := by
    intro n n0 n1
    rcases mnF_cases (q := newB (tv μ t)) (f := fun j => rcV (widV (wayV (tv μ t)) (j / 8) (j % 8) k) (sumV (tv μ t)) (tv μ t 0 0) 0 (awayV (tv μ t))) (n := n) n0 with ⟨e, _⟩ | ⟨j, hj0, e, g1, _⟩
    · unfold moreV
      rw [e]
      show (0 : Int) ≤ 0 ∧ (0 : Int) ≤ 307359360 ∧ (-1 : Int) ≤ -1 ∧ (-1 : Int) < 64
      omega
    · unfold moreV
      rw [e]
      have g2 := of_decide_eq_true g1
      have := fbd (j / 8) (j % 8) (by omega) (by omega) (by omega) g2.2.1
      exact ⟨this.1, this.2, by show -1 ≤ j; omega, by show j < 64; omega⟩
  refine vc_X6_planMore_0 ht ⟨⟨rfl, hr.1⟩, fun m1 q1 => vc_X6_planMore_5 ht (vc_X6_planMore_21 ht (vc_X6_planMore_26 ht (vc_X6_planMore_31 ht ?_)))⟩
  have f1 : ∀ z : Int, (z < 149 ∨ 155 < z) → updm (updm (seto m1 152 (cpy0 (m1 150) (m1 152) 256)) 149 10 (-1)) 149 11 (-1) z = μ z := fun z hz => by
    rw [ru_ne (by omega), ru_ne (by omega), rs_ne (by omega)]; exact q1.2 z (by omega) (by omega)
  have s1 : ∀ s : Int, 0 ≤ s → s < 256 → updm (updm (seto m1 152 (cpy0 (m1 150) (m1 152) 256)) 149 10 (-1)) 149 11 (-1) 152 s = sumV (tv μ t) s := fun s x0 x1 => by
    rw [ru_ne (by omega), ru_ne (by omega), rs_eq, cpy_in x0 x1]; exact (q1.1 s x0 x1).1
  have x10 : updm (updm (seto m1 152 (cpy0 (m1 150) (m1 152) 256)) 149 10 (-1)) 149 11 (-1) 149 10 = -1 := by rw [ru_eq, r1_ne (by omega), ru_eq, r1_eq]
  generalize updm (updm (seto m1 152 (cpy0 (m1 150) (m1 152) 256)) 149 10 (-1)) 149 11 (-1) = m2 at f1 s1 x10
  have pa : ∀ a : Int, 0 ≤ a → a ≤ μ t 1 → ∀ m : Mem, (∀ z : Int, (z < 149 ∨ 155 < z) → m z = μ z) → (∀ s : Int, 0 ≤ s → s < 256 → m 152 s = sumV (tv μ t) s) → MoreR m (moreV (tv μ t) k (8 * a)) → V_X6_planMore R 33 [(0, kR 149), (1, kR t), (2, kI k), (3, kI a)] m := by
    refine up_ind (P := fun a => ∀ m : Mem, (∀ z : Int, (z < 149 ∨ 155 < z) → m z = μ z) → (∀ s : Int, 0 ≤ s → s < 256 → m 152 s = sumV (tv μ t) s) → MoreR m (moreV (tv μ t) k (8 * a)) → V_X6_planMore R 33 [(0, kR 149), (1, kR t), (2, kI k), (3, kI a)] m) ?_ ?_
    · intro a a0 a1 iha m hf hs hm
      have e1 : m t 1 = μ t 1 := by rw [hf t (by omega)]
      have pb : ∀ b : Int, a + 1 ≤ b → b ≤ μ t 1 → ∀ m : Mem, (∀ z : Int, (z < 149 ∨ 155 < z) → m z = μ z) → (∀ s : Int, 0 ≤ s → s < 256 → m 152 s = sumV (tv μ t) s) → MoreR m (moreV (tv μ t) k (8 * a + b)) → V_X6_planMore R 46 [(0, kR 149), (1, kR t), (2, kI k), (3, kI a), (4, kI b)] m := by
        refine up_ind (P := fun b => ∀ m : Mem, (∀ z : Int, (z < 149 ∨ 155 < z) → m z = μ z) → (∀ s : Int, 0 ≤ s → s < 256 → m 152 s = sumV (tv μ t) s) → MoreR m (moreV (tv μ t) k (8 * a + b)) → V_X6_planMore R 46 [(0, kR 149), (1, kR t), (2, kI k), (3, kI a), (4, kI b)] m) ?_ ?_
        · intro b b0 b1 ihb m hf hs hm
          have e1 : m t 1 = μ t 1 := by rw [hf t (by omega)]
          have etv := tv_frame (fr hf)
          have hr2 := TR_frame hr (fr hf)
          have ed : (8 * a + b) / 8 = a := by omega
          have em : (8 * a + b) % 8 = b := by omega
          have es : moreV (tv μ t) k (8 * a + b + 1) = if newB (tv μ t) (8 * a + b) = true ∧ ((moreV (tv μ t) k (8 * a + b)).2 < 0 ∨ rcV (widV (wayV (tv μ t)) a b k) (sumV (tv μ t)) (tv μ t 0 0) 0 (awayV (tv μ t)) < (moreV (tv μ t) k (8 * a + b)).1) then (rcV (widV (wayV (tv μ t)) a b k) (sumV (tv μ t)) (tv μ t 0 0) 0 (awayV (tv μ t)), 8 * a + b) else moreV (tv μ t) k (8 * a + b) := by
            have h : moreV (tv μ t) k (8 * a + b + 1) = _ := mnF_s (show 0 ≤ 8 * a + b by omega)
            rw [h, ed, em]
            rfl
          have i1 : 8 * a + (b + 1) = 8 * a + b + 1 := by omega
          rw [i1, es] at ihb
          have hmb := mbd (8 * a + b) (by omega) (by omega)
          refine vc_X6_planMore_46 ht ?_
          unfold P_X7_hasLane F_X7_hasLane
          rw [e1, etv]
          refine ⟨rr (by omega), rr (by omega), fun c => absurd c (by omega), fun _ => ⟨⟨hr2.1, by omega, by omega⟩, ?_⟩⟩
          by_cases hz : tv μ t 7 (8 * a + b) = 0
          · rw [if_pos hz]
            have hnew : newB (tv μ t) (8 * a + b) = true := by
              unfold newB
              rw [ed, em]
              exact decide_eq_true ⟨by omega, b1, hz⟩
            refine ⟨rr (by omega), fun c => absurd rfl c, fun _ => ⟨⟨hr2.1, hr2.2.1, by rw [etv]; omega, by rw [etv]; omega, hk, a_154, by omega⟩, fun m3 q3 => vc_X6_planMore_77 ht ?_⟩⟩
            unfold Q_X7_widen at q3
            rw [etv] at q3
            have f3 : ∀ z : Int, (z < 149 ∨ 155 < z) → m3 z = μ z := fun z hz => by rw [q3.2 z (by omega)]; exact hf z hz
            have hr3 := TR_frame hr (fr f3)
            have ha3 := TR_away hr3
            have etv3 := tv_frame (fr f3)
            have e13 : m3 t 1 = μ t 1 := by rw [f3 t (by omega)]
            have s3 : ∀ s : Int, 0 ≤ s → s < 256 → m3 152 s = sumV (tv μ t) s := fun s x0 x1 => by rw [q3.2 152 (by omega)]; exact hs s x0 x1
            rw [ha3.1, etv3, e13]
            refine ⟨ha3.2, ⟨rfl, a_154, by omega, by omega, by omega, hb, away_in ok, fun c d c0 c1 d0 d1 => ?_, fun s x0 x1 => by rw [s3 s x0 x1]; exact srt s x0 x1⟩, fun m4 q4 => vc_X6_planMore_93 ht ?_⟩
            · rw [q3.1 c d c0 c1 d0 d1]
              exact wid_bd ok hj (by omega) a0 a1 (by omega) b1 c0 c1 d0 d1
            have f4 : ∀ z : Int, (z < 149 ∨ 155 < z) → m4 z = μ z := fun z hz => by rw [q4.2 z (by omega)]; exact f3 z hz
            have hr4 := TR_frame hr (fr f4)
            have ha4 := TR_away hr4
            have etv4 := tv_frame (fr f4)
            have s4 : ∀ s : Int, 0 ≤ s → s < 256 → m4 152 s = sumV (tv μ t) s := fun s x0 x1 => by rw [q4.2 152 (by omega)]; exact s3 s x0 x1
            have c4 : m4 153 (awayV (tv μ t)) = rcV (widV (wayV (tv μ t)) a b k) (sumV (tv μ t)) (μ t 1) 0 (awayV (tv μ t)) := by
              have e := q4.1 (awayV (tv μ t)) 0 hb.1 hb.2 (fun _ _ _ h => h) (Int.le_refl _) (by omega) (Or.inl rfl)
              have e2 : 256 * 0 + awayV (tv μ t) = awayV (tv μ t) := by omega
              rw [e2] at e
              rw [e]
              exact (rcV_congr (by omega) (fun c d c0 c1 d0 d1 => q3.1 c d c0 c1 d0 d1) s4 (Int.le_refl _) (by omega) hb.1 hb.2).1
            have x49 : m4 149 = m 149 := by rw [q4.2 149 (by omega), q3.2 149 (by omega)]
            have hc := fbd a b a0 a1 (by omega) b1
            rw [ha4.1, etv4, c4, x49]
            have take : ∀ m5 : Mem, m5 = updm m4 149 7 (rcV (widV (wayV (tv μ t)) a b k) (sumV (tv μ t)) (μ t 1) 0 (awayV (tv μ t))) → ((moreV (tv μ t) k (8 * a + b)).2 < 0 ∨ rcV (widV (wayV (tv μ t)) a b k) (sumV (tv μ t)) (tv μ t 0 0) 0 (awayV (tv μ t)) < (moreV (tv μ t) k (8 * a + b)).1) → V_X6_planMore R 130 [(0, kR 149), (1, kR t), (2, kI k), (3, kI a), (4, kI b)] m5 := by
              intro m5 h5 hlt
              rw [if_pos ⟨hnew, hlt⟩] at ihb
              subst h5
              refine vc_X6_planMore_130 ht (vc_X6_planMore_135 ht (vc_X6_planMore_141 ht (ihb _ (fun z hz => by rw [ru_ne (by omega), ru_ne (by omega), ru_ne (by omega)]; exact f4 z hz) (fun s x0 x1 => by rw [ru_ne (by omega), ru_ne (by omega), ru_ne (by omega)]; exact s4 s x0 x1) ⟨fun c => absurd (show 8 * a + b < 0 from c) (by omega), fun _ => ⟨?_, ?_, ?_⟩⟩)))
              · rw [ru_eq, r1_ne (by omega), ru_eq, r1_ne (by omega), ru_eq, r1_eq]; rfl
              · rw [ru_eq, r1_ne (by omega), ru_eq, r1_eq]; exact ed.symm
              · rw [ru_eq, r1_eq]; exact em.symm
            have r10 : r32 (m 149 10) := by
              by_cases c : (moreV (tv μ t) k (8 * a + b)).2 < 0
              · rw [hm.1 c]; exact rr (by omega)
              · rw [(hm.2 (by omega)).2.1]; exact rr (by omega)
            refine ⟨r10, fun c => ⟨ha4.2, by omega, take _ rfl ?_⟩, fun c => ⟨ha4.2, by omega, rr (by omega), ?_⟩⟩
            · by_cases c2 : (moreV (tv μ t) k (8 * a + b)).2 < 0
              · exact Or.inl c2
              · have := (hm.2 (by omega)).2.1
                omega
            · have c2 : 0 ≤ (moreV (tv μ t) k (8 * a + b)).2 := by
                by_cases c3 : (moreV (tv μ t) k (8 * a + b)).2 < 0
                · exact absurd (hm.1 c3) c
                · omega
              rw [(hm.2 c2).1]
              refine ⟨rr (by omega), fun c3 => vc_X6_planMore_141 ht ?_, fun c3 => ⟨ha4.2, by omega, take _ rfl (Or.inr (by rw [hpe]; omega))⟩⟩
              rw [if_neg (fun q => q.2.elim (by omega) (by rw [hpe]; omega))] at ihb
              refine ihb m4 f4 s4 ⟨fun c => absurd c (by omega), fun _ => ?_⟩
              rw [x49]
              exact hm.2 c2
          · rw [if_neg hz]
            refine ⟨rr (by omega), fun _ => vc_X6_planMore_141 ht ?_, fun c => absurd (show (1 : Int) ≠ 0 by omega) c⟩
            rw [if_neg (fun q => by
              have := of_decide_eq_true q.1
              exact hz this.2.2)] at ihb
            exact ihb m hf hs hm
        · intro m hf hs hm
          have e1 : m t 1 = μ t 1 := by rw [hf t (by omega)]
          refine vc_X6_planMore_46 ht ?_
          rw [e1]
          refine ⟨rr (by omega), rr (by omega), fun _ => iha m hf hs ?_, fun c => absurd (Int.le_refl _) c⟩
          have : moreV (tv μ t) k (8 * (a + 1)) = moreV (tv μ t) k (8 * a + μ t 1) := mnF_skip (by omega) (by omega) (fun j j0 j1 => by
            unfold newB
            refine decide_eq_false (fun q => ?_)
            have := q.2.1
            omega)
          rw [this]
          exact hm
      refine vc_X6_planMore_33 ht ?_
      rw [e1]
      refine ⟨rr (by omega), rr (by omega), fun c => absurd c (by omega), fun _ => pb (a + 1) (Int.le_refl _) (by omega) m hf hs ?_⟩
      have : moreV (tv μ t) k (8 * a + (a + 1)) = moreV (tv μ t) k (8 * a) := mnF_skip (by omega) (by omega) (fun j j0 j1 => by
        unfold newB
        refine decide_eq_false (fun q => ?_)
        have := q.1
        omega)
      rw [this]
      exact hm
    · intro m hf hs hm
      have e1 : m t 1 = μ t 1 := by rw [hf t (by omega)]
      have hmb := mbd (8 * μ t 1) (by omega) (Int.le_refl _)
      refine vc_X6_planMore_33 ht ?_
      rw [e1]
      have r10 : r32 (m 149 10) := by
        by_cases c : (moreV (tv μ t) k (8 * μ t 1)).2 < 0
        · rw [hm.1 c]; exact rr (by omega)
        · rw [(hm.2 (by omega)).2.1]; exact rr (by omega)
      refine ⟨rr (by omega), rr (by omega), fun _ => ⟨r10, fun c => hR m 0 ⟨?_, hm, hf⟩, fun c => hR m 1 ⟨?_, hm, hf⟩⟩, fun c => absurd (Int.le_refl _) c⟩
      · rw [hpe, if_pos]
        by_cases c2 : (moreV (tv μ t) k (8 * μ t 1)).2 < 0
        · exact c2
        · have := (hm.2 (by omega)).2.1
          omega
      · rw [hpe, if_neg (fun c2 => c (hm.1 c2))]
  refine pa 0 (by omega) (by omega) m2 f1 s1 ⟨fun _ => x10, fun c => absurd (show (0 : Int) ≤ -1 from c) (by omega)⟩
theorem ct_X6_planMore : Ct mX6_planMore 3 75 0 0 (nrmS S_X6_planMore) := by
  refine ct_vm (own := RX6) (by decide +kernel) rfl ?_ ?_
  · intro as μ Q hS
    unfold S_X6_planMore at hS
    split at hS
    · exact Nat.le_of_ble_eq_true rfl
    · exact hS.elim
  · intro as μ R hS
    unfold S_X6_planMore at hS
    split at hS
    · exact body_X6_planMore hS.1 hS.2
    · exact hS.elim
/-! till a bell: which cellars, how much is smelt, how many minutes go -/
def digV (v : TV) (s : Int) : Int := sm (fun a => if hasB s a = true then v 6 a else 0) (v 0 0)
def oneV (_ : Int) : Int := 1
def spentV (v : TV) (s : Int) : Int := rcV (wayV v) oneV (v 0 0) 0 s + digV v s
def beS (v : TV) (k : Int) (x : Int × Int × Int) (s : Int) : Int × Int × Int := if subB s (cellV v) = true ∧ spentV v s ≤ k ∧ (x.2.1 < smellV v s ∨ (smellV v s = x.2.1 ∧ spentV v s < x.2.2)) then (s, smellV v s, spentV v s) else x
def beV (v : TV) (k n : Int) : Int × Int × Int := fold (beS v k) (0, 0, 0) n
theorem beV_s {v : TV} {k n : Int} (h : 0 ≤ n) : beV v k (n + 1) = beS v k (beV v k n) n := fold_s h
def P_X6_planBell (o t k : Int) (μ : Mem) : Prop := o = 149 ∧ TR μ t ∧ r32 k
def Q_X6_planBell (_ t k : Int) (μ μ' : Mem) : Prop := (μ' 149 9 = (beV (tv μ t) k (cellV (tv μ t) + 1)).1 ∧ μ' 149 8 = (beV (tv μ t) k (cellV (tv μ t) + 1)).2.1 ∧ μ' 149 7 = (beV (tv μ t) k (cellV (tv μ t) + 1)).2.2) ∧ RowR μ' (wayV (tv μ t)) oneV (tv μ t 0 0) (beV (tv μ t) k (cellV (tv μ t) + 1)).1 ∧ ∀ z : Int, (z < 149 ∨ 155 < z) → μ' z = μ z
theorem digV_bd {v : TV} (ok : TVok v) {s : Int} : 0 ≤ digV v s ∧ digV v s ≤ 792 := by
  have hp := ok.1
  have := sm_bd (f := fun a => if hasB s a = true then v 6 a else 0) (n := v 0 0) (c := 0) (d := 99) (fun a a0 a1 => by
    have := (ok.2.2.2.1 a a0 (by omega)).2.2
    show 0 ≤ (if hasB s a = true then v 6 a else 0) ∧ (if hasB s a = true then v 6 a else 0) ≤ 99
    split <;> omega) (by omega)
  unfold digV
  omega
theorem smellV_bd {v : TV} (ok : TVok v) {s : Int} : 0 ≤ smellV v s ∧ smellV v s ≤ 9504 := by
  have hp := ok.1
  have := sm_bd (f := fun a => if hasB s a = true then v 4 a * v 5 a else 0) (n := v 0 0) (c := 0) (d := 1188) (fun a a0 a1 => by
    have h := ok.2.2.2.1 a a0 (by omega)
    have := mul_bd (A := 99) (B := 12) h.1.1 h.1.2 (show 0 ≤ v 5 a by omega) h.2.1.2
    show 0 ≤ (if hasB s a = true then v 4 a * v 5 a else 0) ∧ (if hasB s a = true then v 4 a * v 5 a else 0) ≤ 1188
    split <;> omega) (by omega)
  unfold smellV
  omega
theorem be_0 {v : TV} {k : Int} : beV v k 1 = (0, 0, 0) := by
  have : beV v k (0 + 1) = _ := beV_s (Int.le_refl _)
  rw [show (0 : Int) + 1 = 1 from rfl] at this
  rw [this]
  have e : smellV v 0 = sm (fun _ => 0) (v 0 0) := sm_congr (fun a _ _ => by rw [has_0]; rfl)
  have e2 : digV v 0 = sm (fun _ => 0) (v 0 0) := sm_congr (fun a _ _ => by rw [has_0]; rfl)
  have z : ∀ n : Int, sm (fun _ => 0) n = 0 := fun n => by
    by_cases h : 0 ≤ n
    · exact sm_zero h
    · have : n.toNat = 0 := by omega
      unfold sm fold
      rw [this]
      rfl
  have e3 : spentV v 0 = 0 := by
    unfold spentV
    rw [e2, z]
    rfl
  unfold beS
  refine if_neg (fun q => ?_)
  rw [e, z, e3] at q
  have h0 : (beV v k 0).2.1 = 0 := rfl
  have h1 : (beV v k 0).2.2 = 0 := rfl
  rw [h0, h1] at q
  omega
def S_X6_planBell : S0t := fun as μ Q => match as with
  | [(2, x0), (2, x1), (0, x2)] => P_X6_planBell x0 x1 x2 μ ∧ ∀ (μ' : Mem) , Q_X6_planBell x0 x1 x2 μ μ'  → Q μ' none
  | _ => False
theorem mono_X6_planBell : Mono S_X6_planBell := by
  intro as μ Q Q' h hS
  unfold S_X6_planBell at hS ⊢
  split at hS
  · exact ⟨hS.1, fun μ' q => h _ _ (hS.2 _ q)⟩
  · exact hS.elim
def iX6_planBell : Inf := (kX6_planBell, fTX6, pTX6, cTX6, lTX6, sTX6, [(90, 1, 2, 0, S_J7_fill_53178), (56, 0, 3, 6, S_X6_fillCosts), (63, 0, 2, 6, S_X6_trace), (102, 1, 3, 0, S_X6_sumOf), (106, 1, 2, 0, S_X6_smellOf)])
theorem ok_X6_planBell : infOK iX6_planBell mX6_planBell RX6 3 75 := ⟨kkX6_planBell, fTX6_ok, pTX6_ok _, cTX6_ok, lTX6_ok, sTX6_ok, c_cons ⟨mJ7_fill_53178, 0, 0, ct_J7_fill_53178, mmJ7_fill_53178, stJ7_fill_53178, lkX6_90, ⟨by decide, by decide⟩, mono_J7_fill_53178⟩ (c_cons ⟨mX6_fillCosts, 2, 50, ct_X6_fillCosts, mmX6_fillCosts, vvX6_fillCosts, lkX6_56, ⟨by decide, by decide⟩, ⟨_, _, rfl⟩, by decide, mono_X6_fillCosts⟩ (c_cons ⟨mX6_trace, 2, 48, ct_X6_trace, mmX6_trace, vvX6_trace, lkX6_63, ⟨by decide, by decide⟩, ⟨_, _, rfl⟩, by decide, mono_X6_trace⟩ (c_cons ⟨mX6_sumOf, 1, 21, ct_X6_sumOf, mmX6_sumOf, stX6_sumOf, lkX6_102, ⟨by decide, by decide⟩, mono_X6_sumOf⟩ (c_cons ⟨mX6_smellOf, 1, 21, ct_X6_smellOf, mmX6_smellOf, stX6_smellOf, lkX6_106, ⟨by decide, by decide⟩, mono_X6_smellOf⟩ (c_nil)))))⟩
theorem mt_X6_planBell : mtOK [] RX6 3 75 := mt_nil
abbrev V_X6_planBell (R : Mem → Option AV → Prop) (pc : Nat) (lc : List (Nat × AV)) (μ : Mem) : Prop := VM mX6_planBell RX6 3 75 R pc lc [] μ
set_option maxRecDepth 20000 in
theorem vc_X6_planBell_0 {R : Mem → Option AV → Prop} {k t : Int} {μ : Mem} (ht : isT t) (H : P_J7_fill_53178 152 1 μ ∧ V_X6_planBell R 8 [(0, kR 149), (1, kR t), (2, kI k)] (M_J7_fill_53178 152 1 μ)) : V_X6_planBell R 0 [(0, kR 149), (1, kR t), (2, kI k)] μ := by
  refine vm_step2 mt_X6_planBell ok_X6_planBell [(8, [0, 1, 2]), (24, [0, 1, 2]), (29, [0, 1, 2]), (34, [0, 1, 2]), (39, [0, 1, 2]), (41, [0, 1, 2, 3]), (126, [0, 1, 2, 3, 4, 5]), (132, [0, 1, 2, 3, 4]), (138, [0, 1, 2, 3])] 1000 ?_
  show isC 149 6 ∧ P_J7_fill_53178 152 1 μ ∧ V_X6_planBell R 8 [(0, kR 149), (1, kR t), (2, kI k)] (M_J7_fill_53178 152 1 μ)
  exact ⟨c_149, ⟨H.1, H.2⟩⟩
set_option maxRecDepth 20000 in
theorem vc_X6_planBell_8 {R : Mem → Option AV → Prop} {k t : Int} {μ : Mem} (ht : isT t) (H : P_X6_fillCosts 149 (t + 2) (μ t 1) (μ t 4) μ ∧ (∀ (μ1 : Mem), Q_X6_fillCosts 149 (t + 2) (μ t 1) (μ t 4) μ μ1 → V_X6_planBell R 24 [(0, kR 149), (1, kR t), (2, kI k)] μ1)) : V_X6_planBell R 8 [(0, kR 149), (1, kR t), (2, kI k)] μ := by
  refine vm_step2 mt_X6_planBell ok_X6_planBell [(8, [0, 1, 2]), (24, [0, 1, 2]), (29, [0, 1, 2]), (34, [0, 1, 2]), (39, [0, 1, 2]), (41, [0, 1, 2, 3]), (126, [0, 1, 2, 3, 4, 5]), (132, [0, 1, 2, 3, 4]), (138, [0, 1, 2, 3])] 1000 ?_
  show isC t 7 ∧ isC t 7 ∧ isC t 7 ∧ isC 149 6 ∧ P_X6_fillCosts 149 (t + 2) (μ t 1) (μ t 4) μ ∧ (∀ (μ1 : Mem), Q_X6_fillCosts 149 (t + 2) (μ t 1) (μ t 4) μ μ1 → V_X6_planBell R 24 [(0, kR 149), (1, kR t), (2, kI k)] μ1)
  exact ⟨isT_C ht, ⟨isT_C ht, ⟨isT_C ht, ⟨c_149, H.1, fun μ1 hq3 => (H.2 μ1 hq3)⟩⟩⟩⟩
set_option maxRecDepth 20000 in
theorem vc_X6_planBell_24 {R : Mem → Option AV → Prop} {k t : Int} {μ : Mem} (ht : isT t) (H : V_X6_planBell R 29 [(0, kR 149), (1, kR t), (2, kI k)] (updm μ 149 9 0)) : V_X6_planBell R 24 [(0, kR 149), (1, kR t), (2, kI k)] μ := by
  refine vm_step2 mt_X6_planBell ok_X6_planBell [(8, [0, 1, 2]), (24, [0, 1, 2]), (29, [0, 1, 2]), (34, [0, 1, 2]), (39, [0, 1, 2]), (41, [0, 1, 2, 3]), (126, [0, 1, 2, 3, 4, 5]), (132, [0, 1, 2, 3, 4]), (138, [0, 1, 2, 3])] 1000 ?_
  show isC 149 6 ∧ 0 = 0 ∧ True ∧ V_X6_planBell R 29 [(0, kR 149), (1, kR t), (2, kI k)] (updm μ 149 9 0)
  exact ⟨c_149, rfl, trivial, H⟩
set_option maxRecDepth 20000 in
theorem vc_X6_planBell_29 {R : Mem → Option AV → Prop} {k t : Int} {μ : Mem} (ht : isT t) (H : V_X6_planBell R 34 [(0, kR 149), (1, kR t), (2, kI k)] (updm μ 149 8 0)) : V_X6_planBell R 29 [(0, kR 149), (1, kR t), (2, kI k)] μ := by
  refine vm_step2 mt_X6_planBell ok_X6_planBell [(8, [0, 1, 2]), (24, [0, 1, 2]), (29, [0, 1, 2]), (34, [0, 1, 2]), (39, [0, 1, 2]), (41, [0, 1, 2, 3]), (126, [0, 1, 2, 3, 4, 5]), (132, [0, 1, 2, 3, 4]), (138, [0, 1, 2, 3])] 1000 ?_
  show isC 149 6 ∧ 0 = 0 ∧ True ∧ V_X6_planBell R 34 [(0, kR 149), (1, kR t), (2, kI k)] (updm μ 149 8 0)
  exact ⟨c_149, rfl, trivial, H⟩
set_option maxRecDepth 20000 in
theorem vc_X6_planBell_34 {R : Mem → Option AV → Prop} {k t : Int} {μ : Mem} (ht : isT t) (H : V_X6_planBell R 39 [(0, kR 149), (1, kR t), (2, kI k)] (updm μ 149 7 0)) : V_X6_planBell R 34 [(0, kR 149), (1, kR t), (2, kI k)] μ := by
  refine vm_step2 mt_X6_planBell ok_X6_planBell [(8, [0, 1, 2]), (24, [0, 1, 2]), (29, [0, 1, 2]), (34, [0, 1, 2]), (39, [0, 1, 2]), (41, [0, 1, 2, 3]), (126, [0, 1, 2, 3, 4, 5]), (132, [0, 1, 2, 3, 4]), (138, [0, 1, 2, 3])] 1000 ?_
  show isC 149 6 ∧ 0 = 0 ∧ True ∧ V_X6_planBell R 39 [(0, kR 149), (1, kR t), (2, kI k)] (updm μ 149 7 0)
  exact ⟨c_149, rfl, trivial, H⟩
set_option maxRecDepth 20000 in
theorem vc_X6_planBell_39 {R : Mem → Option AV → Prop} {k t : Int} {μ : Mem} (ht : isT t) (H : V_X6_planBell R 41 [(0, kR 149), (1, kR t), (2, kI k), (3, kI 1)] μ) : V_X6_planBell R 39 [(0, kR 149), (1, kR t), (2, kI k)] μ := by
  refine vm_step2 mt_X6_planBell ok_X6_planBell [(8, [0, 1, 2]), (24, [0, 1, 2]), (29, [0, 1, 2]), (34, [0, 1, 2]), (39, [0, 1, 2]), (41, [0, 1, 2, 3]), (126, [0, 1, 2, 3, 4, 5]), (132, [0, 1, 2, 3, 4]), (138, [0, 1, 2, 3])] 1000 ?_
  show V_X6_planBell R 41 [(0, kR 149), (1, kR t), (2, kI k), (3, kI 1)] μ
  exact H
set_option maxRecDepth 20000 in
theorem vc_X6_planBell_41 {R : Mem → Option AV → Prop} {k s t : Int} {μ : Mem} (ht : isT t) (H : r32 s ∧ r32 (μ t 4) ∧ (((μ t 4) < s) → P_X6_trace 149 t (μ 149 9) μ ∧ (∀ (μ4 : Mem), Q_X6_trace 149 t (μ 149 9) μ μ4 → R μ4 none)) ∧ (¬ ((μ t 4) < s) → r32 (band s (bxor (μ t 4) (-1))) ∧ ((¬ (band s (bxor (μ t 4) (-1))) = 0) → V_X6_planBell R 138 [(0, kR 149), (1, kR t), (2, kI k), (3, kI s)] μ) ∧ (¬ (¬ (band s (bxor (μ t 4) (-1))) = 0) → (0 ≤ s ∧ s < 2048) ∧ P_X6_sumOf (t + 5) s (μ t 1) μ ∧ P_X6_smellOf t s μ ∧ r32 ((μ 153 s) + (F_X6_sumOf (t + 5) s (μ t 1) μ)) ∧ r32 k ∧ ((k < ((μ 153 s) + (F_X6_sumOf (t + 5) s (μ t 1) μ))) → V_X6_planBell R 138 [(0, kR 149), (1, kR t), (2, kI k), (3, kI s)] μ) ∧ (¬ (k < ((μ 153 s) + (F_X6_sumOf (t + 5) s (μ t 1) μ))) → r32 (F_X6_smellOf t s μ) ∧ r32 (μ 149 8) ∧ (((μ 149 8) < (F_X6_smellOf t s μ)) → V_X6_planBell R 126 [(0, kR 149), (1, kR t), (2, kI k), (3, kI s), (4, kI ((μ 153 s) + (F_X6_sumOf (t + 5) s (μ t 1) μ))), (5, kI (F_X6_smellOf t s μ))] (updm μ 149 9 s)) ∧ (¬ ((μ 149 8) < (F_X6_smellOf t s μ)) → r32 (F_X6_smellOf t s μ) ∧ r32 (μ 149 8) ∧ ((¬ (F_X6_smellOf t s μ) = (μ 149 8)) → V_X6_planBell R 138 [(0, kR 149), (1, kR t), (2, kI k), (3, kI s)] μ) ∧ (¬ (¬ (F_X6_smellOf t s μ) = (μ 149 8)) → r32 ((μ 153 s) + (F_X6_sumOf (t + 5) s (μ t 1) μ)) ∧ r32 (μ 149 7) ∧ (((μ 149 7) ≤ ((μ 153 s) + (F_X6_sumOf (t + 5) s (μ t 1) μ))) → V_X6_planBell R 138 [(0, kR 149), (1, kR t), (2, kI k), (3, kI s)] μ) ∧ (¬ ((μ 149 7) ≤ ((μ 153 s) + (F_X6_sumOf (t + 5) s (μ t 1) μ))) → V_X6_planBell R 126 [(0, kR 149), (1, kR t), (2, kI k), (3, kI s), (4, kI ((μ 153 s) + (F_X6_sumOf (t + 5) s (μ t 1) μ))), (5, kI (F_X6_smellOf t s μ))] (updm μ 149 9 s)))))))) : V_X6_planBell R 41 [(0, kR 149), (1, kR t), (2, kI k), (3, kI s)] μ := by
  refine vm_step2 mt_X6_planBell ok_X6_planBell [(8, [0, 1, 2]), (24, [0, 1, 2]), (29, [0, 1, 2]), (34, [0, 1, 2]), (39, [0, 1, 2]), (41, [0, 1, 2, 3]), (126, [0, 1, 2, 3, 4, 5]), (132, [0, 1, 2, 3, 4]), (138, [0, 1, 2, 3])] 1000 ?_
  show isC t 7 ∧ (r32 s ∧ r32 (μ t 4)) ∧ (((μ t 4) < s) → isC 149 6 ∧ isC 149 6 ∧ P_X6_trace 149 t (μ 149 9) μ ∧ (∀ (μ4 : Mem), Q_X6_trace 149 t (μ 149 9) μ μ4 → R μ4 none)) ∧ (¬ ((μ t 4) < s) → isC t 7 ∧ r32 (band s (bxor (μ t 4) (-1))) ∧ ((¬ (band s (bxor (μ t 4) (-1))) = 0) → V_X6_planBell R 138 [(0, kR 149), (1, kR t), (2, kI k), (3, kI s)] μ) ∧ (¬ (¬ (band s (bxor (μ t 4) (-1))) = 0) → isC 149 6 ∧ inA 153 0 s ∧ isC t 7 ∧ isC t 7 ∧ P_X6_sumOf (t + 5) s (μ t 1) μ ∧ P_X6_smellOf t s μ ∧ (r32 ((μ 153 s) + (F_X6_sumOf (t + 5) s (μ t 1) μ)) ∧ r32 k) ∧ ((k < ((μ 153 s) + (F_X6_sumOf (t + 5) s (μ t 1) μ))) → V_X6_planBell R 138 [(0, kR 149), (1, kR t), (2, kI k), (3, kI s)] μ) ∧ (¬ (k < ((μ 153 s) + (F_X6_sumOf (t + 5) s (μ t 1) μ))) → isC 149 6 ∧ (r32 (F_X6_smellOf t s μ) ∧ r32 (μ 149 8)) ∧ (((μ 149 8) < (F_X6_smellOf t s μ)) → isC 149 6 ∧ 0 = 0 ∧ True ∧ V_X6_planBell R 126 [(0, kR 149), (1, kR t), (2, kI k), (3, kI s), (4, kI ((μ 153 s) + (F_X6_sumOf (t + 5) s (μ t 1) μ))), (5, kI (F_X6_smellOf t s μ))] (updm μ 149 9 s)) ∧ (¬ ((μ 149 8) < (F_X6_smellOf t s μ)) → isC 149 6 ∧ (r32 (F_X6_smellOf t s μ) ∧ r32 (μ 149 8)) ∧ ((¬ (F_X6_smellOf t s μ) = (μ 149 8)) → V_X6_planBell R 138 [(0, kR 149), (1, kR t), (2, kI k), (3, kI s)] μ) ∧ (¬ (¬ (F_X6_smellOf t s μ) = (μ 149 8)) → isC 149 6 ∧ (r32 ((μ 153 s) + (F_X6_sumOf (t + 5) s (μ t 1) μ)) ∧ r32 (μ 149 7)) ∧ (((μ 149 7) ≤ ((μ 153 s) + (F_X6_sumOf (t + 5) s (μ t 1) μ))) → V_X6_planBell R 138 [(0, kR 149), (1, kR t), (2, kI k), (3, kI s)] μ) ∧ (¬ ((μ 149 7) ≤ ((μ 153 s) + (F_X6_sumOf (t + 5) s (μ t 1) μ))) → isC 149 6 ∧ 0 = 0 ∧ True ∧ V_X6_planBell R 126 [(0, kR 149), (1, kR t), (2, kI k), (3, kI s), (4, kI ((μ 153 s) + (F_X6_sumOf (t + 5) s (μ t 1) μ))), (5, kI (F_X6_smellOf t s μ))] (updm μ 149 9 s)))))))
  exact ⟨isT_C ht, ⟨⟨H.1, H.2.1⟩, fun hc12 => ⟨c_149, ⟨c_149, (H.2.2.1 hc12).1, fun μ4 hq6 => ((H.2.2.1 hc12).2 μ4 hq6)⟩⟩, fun hc12 => ⟨isT_C ht, ⟨(H.2.2.2 hc12).1, fun hc11 => ((H.2.2.2 hc12).2.1 hc11), fun hc11 => ⟨c_149, ⟨isArr.in a_153 ((H.2.2.2 hc12).2.2 hc11).1.1 ((H.2.2.2 hc12).2.2 hc11).1.2, ⟨isT_C ht, ⟨isT_C ht, ⟨((H.2.2.2 hc12).2.2 hc11).2.1, ⟨((H.2.2.2 hc12).2.2 hc11).2.2.1, ⟨⟨((H.2.2.2 hc12).2.2 hc11).2.2.2.1, ((H.2.2.2 hc12).2.2 hc11).2.2.2.2.1⟩, fun hc10 => (((H.2.2.2 hc12).2.2 hc11).2.2.2.2.2.1 hc10), fun hc10 => ⟨c_149, ⟨⟨(((H.2.2.2 hc12).2.2 hc11).2.2.2.2.2.2 hc10).1, (((H.2.2.2 hc12).2.2 hc11).2.2.2.2.2.2 hc10).2.1⟩, fun hc9 => ⟨c_149, rfl, trivial, ((((H.2.2.2 hc12).2.2 hc11).2.2.2.2.2.2 hc10).2.2.1 hc9)⟩, fun hc9 => ⟨c_149, ⟨⟨((((H.2.2.2 hc12).2.2 hc11).2.2.2.2.2.2 hc10).2.2.2 hc9).1, ((((H.2.2.2 hc12).2.2 hc11).2.2.2.2.2.2 hc10).2.2.2 hc9).2.1⟩, fun hc8 => (((((H.2.2.2 hc12).2.2 hc11).2.2.2.2.2.2 hc10).2.2.2 hc9).2.2.1 hc8), fun hc8 => ⟨c_149, ⟨⟨(((((H.2.2.2 hc12).2.2 hc11).2.2.2.2.2.2 hc10).2.2.2 hc9).2.2.2 hc8).1, (((((H.2.2.2 hc12).2.2 hc11).2.2.2.2.2.2 hc10).2.2.2 hc9).2.2.2 hc8).2.1⟩, fun hc7 => ((((((H.2.2.2 hc12).2.2 hc11).2.2.2.2.2.2 hc10).2.2.2 hc9).2.2.2 hc8).2.2.1 hc7), fun hc7 => ⟨c_149, rfl, trivial, ((((((H.2.2.2 hc12).2.2 hc11).2.2.2.2.2.2 hc10).2.2.2 hc9).2.2.2 hc8).2.2.2 hc7)⟩⟩⟩⟩⟩⟩⟩⟩⟩⟩⟩⟩⟩⟩⟩⟩⟩⟩
set_option maxRecDepth 20000 in
theorem vc_X6_planBell_126 {R : Mem → Option AV → Prop} {k s sp sl t : Int} {μ : Mem} (ht : isT t) (H : V_X6_planBell R 132 [(0, kR 149), (1, kR t), (2, kI k), (3, kI s), (4, kI sp)] (updm μ 149 8 sl)) : V_X6_planBell R 126 [(0, kR 149), (1, kR t), (2, kI k), (3, kI s), (4, kI sp), (5, kI sl)] μ := by
  refine vm_step2 mt_X6_planBell ok_X6_planBell [(8, [0, 1, 2]), (24, [0, 1, 2]), (29, [0, 1, 2]), (34, [0, 1, 2]), (39, [0, 1, 2]), (41, [0, 1, 2, 3]), (126, [0, 1, 2, 3, 4, 5]), (132, [0, 1, 2, 3, 4]), (138, [0, 1, 2, 3])] 1000 ?_
  show isC 149 6 ∧ 0 = 0 ∧ True ∧ V_X6_planBell R 132 [(0, kR 149), (1, kR t), (2, kI k), (3, kI s), (4, kI sp)] (updm μ 149 8 sl)
  exact ⟨c_149, rfl, trivial, H⟩
set_option maxRecDepth 20000 in
theorem vc_X6_planBell_132 {R : Mem → Option AV → Prop} {k s sp t : Int} {μ : Mem} (ht : isT t) (H : V_X6_planBell R 138 [(0, kR 149), (1, kR t), (2, kI k), (3, kI s)] (updm μ 149 7 sp)) : V_X6_planBell R 132 [(0, kR 149), (1, kR t), (2, kI k), (3, kI s), (4, kI sp)] μ := by
  refine vm_step2 mt_X6_planBell ok_X6_planBell [(8, [0, 1, 2]), (24, [0, 1, 2]), (29, [0, 1, 2]), (34, [0, 1, 2]), (39, [0, 1, 2]), (41, [0, 1, 2, 3]), (126, [0, 1, 2, 3, 4, 5]), (132, [0, 1, 2, 3, 4]), (138, [0, 1, 2, 3])] 1000 ?_
  show isC 149 6 ∧ 0 = 0 ∧ True ∧ V_X6_planBell R 138 [(0, kR 149), (1, kR t), (2, kI k), (3, kI s)] (updm μ 149 7 sp)
  exact ⟨c_149, rfl, trivial, H⟩
set_option maxRecDepth 20000 in
theorem vc_X6_planBell_138 {R : Mem → Option AV → Prop} {k s t : Int} {μ : Mem} (ht : isT t) (H : V_X6_planBell R 41 [(0, kR 149), (1, kR t), (2, kI k), (3, kI (s + 1))] μ) : V_X6_planBell R 138 [(0, kR 149), (1, kR t), (2, kI k), (3, kI s)] μ := by
  refine vm_step2 mt_X6_planBell ok_X6_planBell [(8, [0, 1, 2]), (24, [0, 1, 2]), (29, [0, 1, 2]), (34, [0, 1, 2]), (39, [0, 1, 2]), (41, [0, 1, 2, 3]), (126, [0, 1, 2, 3, 4, 5]), (132, [0, 1, 2, 3, 4]), (138, [0, 1, 2, 3])] 1000 ?_
  show V_X6_planBell R 41 [(0, kR 149), (1, kR t), (2, kI k), (3, kI (s + 1))] μ
  exact H
theorem body_X6_planBell {o t k : Int} {μ : Mem} {R : Mem → Option AV → Prop} (h : P_X6_planBell o t k μ) (hR : ∀ μ' : Mem, Q_X6_planBell o t k μ μ' → R μ' none) : V_X6_planBell R 0 [(0, kR o), (1, kR t), (2, kI k)] μ := by
  obtain ⟨rfl, hr, hk⟩ := h
  have ht := hr.1.1
  have ok := hr.1.2
  have hj := hr.2.2.1
  have hp : 2 ≤ μ t 1 ∧ μ t 1 ≤ 8 := ok.1
  have hpe : tv μ t 0 0 = μ t 1 := rfl
  have hT := isT_hi ht
  have hcb := cell_bd ok
  have fr : ∀ {m : Mem}, (∀ z : Int, (z < 149 ∨ 155 < z) → m z = μ z) → ∀ z : Int, t ≤ z → z ≤ t + 9 → m z = μ z := fun h z z0 z1 => h z (by omega)
  have cbd : ∀ s : Int, 0 ≤ s → s < 256 → 0 ≤ rcV (wayV (tv μ t)) oneV (tv μ t 0 0) 0 s ∧ rcV (wayV (tv μ t)) oneV (tv μ t 0 0) 0 s ≤ 307359360 := fun s s0 s1 => rc_bd ok hj (fun s _ _ => by show (0 : Int) ≤ 1 ∧ (1 : Int) ≤ 274428; omega) (Int.le_refl _) (by omega) s0 s1
  refine vc_X6_planBell_0 ht ⟨⟨256, a_152, by omega⟩, vc_X6_planBell_8 ht ?_⟩
  have f1 : ∀ z : Int, (z < 149 ∨ 155 < z) → M_J7_fill_53178 152 1 μ z = μ z := fun z hz => rs_ne (by omega)
  have s1 : ∀ s : Int, 0 ≤ s → s < 256 → M_J7_fill_53178 152 1 μ 152 s = oneV s := fun s x0 x1 => by
    unfold M_J7_fill_53178
    rw [rs_eq]
    exact if_pos ⟨x0, by have : ((LAY (152 : Int).toNat).2 : Int) = 256 := rfl
                         omega⟩
  generalize M_J7_fill_53178 152 1 μ = m1 at f1 s1
  have hr1 := TR_frame hr (fr f1)
  have etv1 := tv_frame (fr f1)
  have e41 : m1 t 4 = cellV (tv μ t) := by rw [f1 t (by omega)]; exact hr.2.2.2.2.2
  have e11 : m1 t 1 = μ t 1 := by rw [f1 t (by omega)]
  rw [e41, e11]
  refine ⟨⟨rfl, T_ways' ht, by omega, by omega, by omega, hcb, cell_in ok, fun a b a0 a1 b0 b1 => ?_, fun s x0 x1 => by rw [s1 s x0 x1]; show (0 : Int) ≤ 1 ∧ (1 : Int) ≤ 274428; omega⟩, fun m2 q2 => vc_X6_planBell_24 ht (vc_X6_planBell_29 ht (vc_X6_planBell_34 ht (vc_X6_planBell_39 ht ?_)))⟩
  · rw [f1 (t + 2) (by omega)]
    have := hr.2.1 a b a0 a1 b0 b1
    rw [this.1]
    exact this.2
  have f2 : ∀ z : Int, (z < 149 ∨ 155 < z) → m2 z = μ z := fun z hz => by rw [q2.2 z (by omega)]; exact f1 z hz
  have s2 : ∀ s : Int, 0 ≤ s → s < 256 → m2 152 s = oneV s := fun s x0 x1 => by rw [q2.2 152 (by omega)]; exact s1 s x0 x1
  have c2 : CostR m2 (wayV (tv μ t)) (tv μ t 0 0) (cellV (tv μ t)) := CostR_congr (show 1 ≤ μ t 1 by omega) (fun a b a0 a1 b0 b1 => by
    rw [f1 (t + 2) (by omega)]
    exact (hr.2.1 a b a0 a1 b0 b1).1) q2.1
  have cst : ∀ s : Int, 0 ≤ s → s < 256 → subS s (cellV (tv μ t)) → m2 153 s = rcV (wayV (tv μ t)) oneV (tv μ t 0 0) 0 s := fun s x0 x1 hs => by
    have e := c2 s 0 x0 x1 hs (Int.le_refl _) (by omega) (Or.inl rfl)
    have e2 : 256 * 0 + s = s := by omega
    rw [e2] at e
    rw [e]
    exact (rcV_congr (by omega) (fun _ _ _ _ _ _ => rfl) s2 (Int.le_refl _) (by omega) x0 x1).1
  have key : ∀ s : Int, 1 ≤ s → s ≤ cellV (tv μ t) + 1 → ∀ m : Mem, (∀ z : Int, z ≠ 149 → m z = m2 z) → m 149 9 = (beV (tv μ t) k s).1 → m 149 8 = (beV (tv μ t) k s).2.1 → m 149 7 = (beV (tv μ t) k s).2.2 → ((0 ≤ (beV (tv μ t) k s).1 ∧ (beV (tv μ t) k s).1 < 256) ∧ subS (beV (tv μ t) k s).1 (cellV (tv μ t)) ∧ (0 ≤ (beV (tv μ t) k s).2.1 ∧ (beV (tv μ t) k s).2.1 ≤ 9504) ∧ 0 ≤ (beV (tv μ t) k s).2.2 ∧ (beV (tv μ t) k s).2.2 ≤ 400000000) → V_X6_planBell R 41 [(0, kR 149), (1, kR t), (2, kI k), (3, kI s)] m := by
    refine up_ind (P := fun s => ∀ m : Mem, (∀ z : Int, z ≠ 149 → m z = m2 z) → m 149 9 = (beV (tv μ t) k s).1 → m 149 8 = (beV (tv μ t) k s).2.1 → m 149 7 = (beV (tv μ t) k s).2.2 → ((0 ≤ (beV (tv μ t) k s).1 ∧ (beV (tv μ t) k s).1 < 256) ∧ subS (beV (tv μ t) k s).1 (cellV (tv μ t)) ∧ (0 ≤ (beV (tv μ t) k s).2.1 ∧ (beV (tv μ t) k s).2.1 ≤ 9504) ∧ 0 ≤ (beV (tv μ t) k s).2.2 ∧ (beV (tv μ t) k s).2.2 ≤ 400000000) → V_X6_planBell R 41 [(0, kR 149), (1, kR t), (2, kI k), (3, kI s)] m) ?_ ?_
    · intro s s0 sl ih m hf h9 h8 h7 hbd
      rw [beV_s (by omega)] at ih
      generalize beV (tv μ t) k s = x at ih h9 h8 h7 hbd
      have fm : ∀ z : Int, (z < 149 ∨ 155 < z) → m z = μ z := fun z hz => by rw [hf z (by omega)]; exact f2 z hz
      have etv := tv_frame (fr fm)
      have e4c : m t 4 = cellV (tv μ t) := by rw [fm t (by omega)]; exact hr.2.2.2.2.2
      have e1c : m t 1 = μ t 1 := by rw [fm t (by omega)]
      have hsb := b_difS (g := s) (s := cellV (tv μ t)) (by omega) (by omega) hcb.1 hcb.2
      have hsd := difS_bd (g := s) (s := cellV (tv μ t)) (by omega)
      have esum : F_X6_sumOf (t + 5) s (μ t 1) m = digV (tv μ t) s := by
        unfold F_X6_sumOf digV
        rw [fm (t + 5) (by omega)]
        exact sm_congr (fun a a0 a1 => by rw [e6 μ t a0 (by omega)])
      have esml : F_X6_smellOf t s m = smellV (tv μ t) s := by unfold F_X6_smellOf; rw [etv]
      have hdb := digV_bd ok (s := s)
      have hmb := smellV_bd ok (s := s)
      have hcb2 := cbd s (by omega) (by omega)
      refine vc_X6_planBell_41 ht ?_
      rw [e4c, hsb, e1c, esum, esml, h8, h7]
      refine ⟨rr (by omega), rr (by omega), fun c => absurd c (by omega), fun _ => ⟨rr (by omega), fun c => ?_, fun c => ?_⟩⟩
      · have : beS (tv μ t) k x s = x := if_neg (fun q => c (of_decide_eq_true q.1))
        rw [this] at ih
        exact vc_X6_planBell_138 ht (ih m hf h9 h8 h7 hbd)
      · have hq : subB s (cellV (tv μ t)) = true := decide_eq_true (by omega)
        have hs := (subB_iff (by omega) (by omega) hcb.1 hcb.2).mp hq
        rw [hf 153 (by omega), cst s (by omega) (by omega) hs]
        have esp : rcV (wayV (tv μ t)) oneV (tv μ t 0 0) 0 s + digV (tv μ t) s = spentV (tv μ t) s := rfl
        rw [esp]
        have hsp : 0 ≤ spentV (tv μ t) s ∧ spentV (tv μ t) s ≤ 400000000 := by unfold spentV; omega
        have sk : ¬ (spentV (tv μ t) s ≤ k ∧ (x.2.1 < smellV (tv μ t) s ∨ (smellV (tv μ t) s = x.2.1 ∧ spentV (tv μ t) s < x.2.2))) → V_X6_planBell R 138 [(0, kR 149), (1, kR t), (2, kI k), (3, kI s)] m := fun c => by
          have : beS (tv μ t) k x s = x := if_neg (fun q => c q.2)
          rw [this] at ih
          exact vc_X6_planBell_138 ht (ih m hf h9 h8 h7 hbd)
        have tk : (spentV (tv μ t) s ≤ k ∧ (x.2.1 < smellV (tv μ t) s ∨ (smellV (tv μ t) s = x.2.1 ∧ spentV (tv μ t) s < x.2.2))) → V_X6_planBell R 126 [(0, kR 149), (1, kR t), (2, kI k), (3, kI s), (4, kI (spentV (tv μ t) s)), (5, kI (smellV (tv μ t) s))] (updm m 149 9 s) := fun c => by
          have : beS (tv μ t) k x s = (s, smellV (tv μ t) s, spentV (tv μ t) s) := if_pos ⟨hq, c⟩
          rw [this] at ih
          refine vc_X6_planBell_126 ht (vc_X6_planBell_132 ht (vc_X6_planBell_138 ht (ih _ (fun z hz => by rw [ru_ne hz, ru_ne hz, ru_ne hz]; exact hf z hz) ?_ ?_ ?_ ⟨⟨by show 0 ≤ s; omega, by show s < 256; omega⟩, hs, hmb, hsp⟩)))
          · rw [ru_eq, r1_ne (by omega), ru_eq, r1_ne (by omega), ru_eq, r1_eq]
          · rw [ru_eq, r1_ne (by omega), ru_eq, r1_eq]
          · rw [ru_eq, r1_eq]
        refine ⟨by omega, ⟨T_dig ht, by omega, by omega⟩, ⟨TB_frame hr.1 (fr fm), by omega⟩, rr (by omega), hk, fun c1 => sk (by omega), fun c1 => ⟨rr (by omega), rr (by omega), fun c2 => tk (by omega), fun c2 => ⟨rr (by omega), rr (by omega), fun c3 => sk (by omega), fun c3 => ⟨rr (by omega), rr (by omega), fun c4 => sk (by omega), fun c4 => tk (by omega)⟩⟩⟩⟩
    · intro m hf h9 h8 h7 hbd
      have fm : ∀ z : Int, (z < 149 ∨ 155 < z) → m z = μ z := fun z hz => by rw [hf z (by omega)]; exact f2 z hz
      have etv := tv_frame (fr fm)
      have hrm := TR_frame hr (fr fm)
      have e4c : m t 4 = cellV (tv μ t) := by rw [fm t (by omega)]; exact hr.2.2.2.2.2
      obtain ⟨hx, hxs, hx1, hx2⟩ := hbd
      refine vc_X6_planBell_41 ht ?_
      rw [e4c, h9]
      have hgn : ∀ a : Int, 0 ≤ a → a < 8 → hasB (beV (tv μ t) k (cellV (tv μ t) + 1)).1 a = true → a < tv μ t 0 0 := fun a a0 a1 ha => cell_in ok a a0 a1 (hxs a a0 a1 ha)
      refine ⟨rr (by omega), rr (by omega), fun _ => ⟨⟨rfl, hrm.1, hrm.2.1, hx, by rw [etv]; exact hgn, fun s x0 x1 => by rw [hf 152 (by omega), s2 s x0 x1]; show (0 : Int) ≤ 1 ∧ (1 : Int) ≤ 274428; omega, ?_⟩, fun m4 q4 => hR m4 ?_⟩, fun c => absurd (show cellV (tv μ t) < cellV (tv μ t) + 1 by omega) c⟩
      · rw [etv]
        intro s fm' s0 sl hs f0 fl ha
        rw [hf 153 (by omega), hf 152 (by omega)]
        exact c2 s fm' s0 sl (fun a a0 a1 h => hxs a a0 a1 (hs a a0 a1 h)) f0 fl (ha.imp id (fun q => ⟨hxs fm' f0 (by omega) q.1, q.2⟩))
      · unfold Q_X6_trace at q4
        rw [etv] at q4
        obtain ⟨g1, g2, g3⟩ := q4
        refine ⟨⟨by rw [g2 9 (by omega)]; exact h9, by rw [g2 8 (by omega)]; exact h8, by rw [g2 7 (by omega)]; exact h7⟩, RowR_congr (by omega) hp.2 (fun _ _ _ _ _ _ => rfl) (fun s x0 x1 => by rw [hf 152 (by omega)]; exact s2 s x0 x1) hx.1 hx.2 hgn g1, fun z hz => by rw [g3 z (by omega) (by omega)]; exact fm z hz⟩
  refine key 1 (by omega) (by omega) _ (fun z hz => by rw [ru_ne hz, ru_ne hz, ru_ne hz]) ?_ ?_ ?_ ?_
  · rw [be_0]; rw [ru_eq, r1_ne (by omega), ru_eq, r1_ne (by omega), ru_eq, r1_eq]
  · rw [be_0]; rw [ru_eq, r1_ne (by omega), ru_eq, r1_eq]
  · rw [be_0]; rw [ru_eq, r1_eq]
  · rw [be_0]
    have hs0 : subS 0 (cellV (tv μ t)) := fun a _ _ h => by rw [has_0] at h; cases h
    exact ⟨by show (0 : Int) ≤ 0 ∧ (0 : Int) < 256; omega, hs0, by show (0 : Int) ≤ 0 ∧ (0 : Int) ≤ 9504; omega, by show (0 : Int) ≤ 0 ∧ (0 : Int) ≤ 400000000; omega⟩
theorem ct_X6_planBell : Ct mX6_planBell 3 75 0 0 (nrmS S_X6_planBell) := by
  refine ct_vm (own := RX6) (by decide +kernel) rfl ?_ ?_
  · intro as μ Q hS
    unfold S_X6_planBell at hS
    split at hS
    · exact Nat.le_of_ble_eq_true rfl
    · exact hS.elim
  · intro as μ R hS
    unfold S_X6_planBell at hS
    split at hS
    · exact body_X6_planBell hS.1 hS.2
    · exact hS.elim
