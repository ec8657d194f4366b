theorem ru_ne {μ : Mem} {o j w q : Int} (h : q ≠ o) : updm μ o j w q = μ q := if_neg h
theorem ru_eq {μ : Mem} {o j w : Int} : updm μ o j w o = upd1 (μ o) j w := if_pos rfl
theorem r1_ne {f : Int → Int} {j w i : Int} (h : i ≠ j) : upd1 f j w i = f i := if_neg h
theorem r1_eq {f : Int → Int} {j w : Int} : upd1 f j w j = w := if_pos rfl
theorem rs_ne {μ : Mem} {o q : Int} {f : Int → Int} (h : q ≠ o) : seto μ o f q = μ q := if_neg h
theorem rs_eq {μ : Mem} {o : Int} {f : Int → Int} : seto μ o f o = f := if_pos rfl
theorem cpy_in {f g : Int → Int} {n j : Int} (h0 : 0 ≤ j) (h1 : j < n) : cpy0 f g n j = f j := if_pos ⟨h0, h1⟩
theorem updm_2 {μ : Mem} {o j x z : Int} : updm (updm μ o j x) o j z = updm μ o j z := by
  funext q i
  unfold updm upd1
  by_cases hq : q = o
  · subst hq
    by_cases hi : i = j <;> simp [hi]
  · simp [hq]
/-- all but the objects from lo to hi stay -/
def Same (μ μ' : Mem) (lo hi : Int) : Prop := ∀ z : Int, z < lo ∨ hi < z → μ' z = μ z
theorem towns_apart {t u : Int} (ht : isT t) (hu : isT u) (h : t ≠ u) : t + 10 ≤ u ∨ u + 10 ≤ t := by
  have key : ∀ t ∈ towns, ∀ u ∈ towns, t ≠ u → t + 10 ≤ u ∨ u + 10 ≤ t := by decide +kernel
  exact key t ht u hu h
/-- a town's objects hold what another's held -/
def TCopy (μ μ' : Mem) (t u : Int) : Prop := (∀ k : Int, (0 ≤ k ∧ k ≤ 6) ∨ k = 12 ∨ k = 16 → μ' t k = μ u k) ∧ (∀ j : Int, 0 ≤ j → j < 64 → μ' (t + 1) j = μ (u + 1) j ∧ μ' (t + 2) j = μ (u + 2) j) ∧
  (∀ j : Int, 0 ≤ j → j < 8 → μ' (t + 3) j = μ (u + 3) j ∧ μ' (t + 4) j = μ (u + 4) j ∧ μ' (t + 5) j = μ (u + 5) j ∧ μ' (t + 7) j = μ (u + 7) j ∧ μ' (t + 8) j = μ (u + 8) j) ∧
  (∀ j : Int, 0 ≤ j → j < 128 → μ' (t + 6) j = μ (u + 6) j) ∧ (∀ j : Int, 0 ≤ j → j < 7 → μ' (t + 9) j = μ (u + 9) j)
def P_X7_copyFrom (t u : Int) (_ : Mem) : Prop := isT t ∧ isT u ∧ t ≠ u
def Q_X7_copyFrom (t u : Int) (μ μ' : Mem) : Prop := TCopy μ μ' t u ∧ Same μ μ' t (t + 9)
def S_X7_copyFrom : S0t := fun as μ Q => match as with
  | [(2, x0), (2, x1)] => P_X7_copyFrom x0 x1 μ ∧ ∀ (μ' : Mem) , Q_X7_copyFrom x0 x1 μ μ'  → Q μ' none
  | _ => False
theorem mono_X7_copyFrom : Mono S_X7_copyFrom := by
  intro as μ Q Q' h hS
  unfold S_X7_copyFrom at hS ⊢
  split at hS
  · exact ⟨hS.1, fun μ' q => h _ _ (hS.2 _ q)⟩
  · exact hS.elim
def iX7_copyFrom : Inf := (kX7_copyFrom, fTX7, pTX7, cTX7, lTX7, sTX7, [(73, 2, 0, 0, S_copy)])
theorem ok_X7_copyFrom : infOK iX7_copyFrom mX7_copyFrom RX7 1 60 := ⟨kkX7_copyFrom, fTX7_ok, pTX7_ok _, cTX7_ok, lTX7_ok, sTX7_ok, c_cons ⟨by decide, AC_X7_73, AC1, AC2, AC3, by decide, by decide⟩ (c_nil)⟩
theorem mt_X7_copyFrom : mtOK [] RX7 1 60 := mt_nil
abbrev V_X7_copyFrom (R : Mem → Option AV → Prop) (pc : Nat) (lc : List (Nat × AV)) (μ : Mem) : Prop := VM mX7_copyFrom RX7 1 60 R pc lc [] μ
set_option maxRecDepth 20000 in
theorem vc_X7_copyFrom_0 {R : Mem → Option AV → Prop} {t u : Int} {μ : Mem} (ht : isT t) (hu : isT u) (H : V_X7_copyFrom R 8 [(0, kR t), (1, kR u)] (updm μ t 0 (μ u 0))) : V_X7_copyFrom R 0 [(0, kR t), (1, kR u)] μ := by
  refine vm_step2 mt_X7_copyFrom ok_X7_copyFrom [(8, [0, 1]), (16, [0, 1]), (24, [0, 1]), (32, [0, 1]), (40, [0, 1]), (48, [0, 1]), (56, [0, 1]), (64, [0, 1]), (72, [0, 1]), (87, [0, 1]), (102, [0, 1]), (117, [0, 1]), (132, [0, 1]), (147, [0, 1]), (163, [0, 1]), (178, [0, 1]), (193, [0, 1])] 1000 ?_
  show isC u 7 ∧ isC t 7 ∧ 0 = 0 ∧ True ∧ V_X7_copyFrom R 8 [(0, kR t), (1, kR u)] (updm μ t 0 (μ u 0))
  exact ⟨isT_C hu, ⟨isT_C ht, rfl, trivial, H⟩⟩
set_option maxRecDepth 20000 in
theorem vc_X7_copyFrom_8 {R : Mem → Option AV → Prop} {t u : Int} {μ : Mem} (ht : isT t) (hu : isT u) (H : V_X7_copyFrom R 16 [(0, kR t), (1, kR u)] (updm μ t 1 (μ u 1))) : V_X7_copyFrom R 8 [(0, kR t), (1, kR u)] μ := by
  refine vm_step2 mt_X7_copyFrom ok_X7_copyFrom [(8, [0, 1]), (16, [0, 1]), (24, [0, 1]), (32, [0, 1]), (40, [0, 1]), (48, [0, 1]), (56, [0, 1]), (64, [0, 1]), (72, [0, 1]), (87, [0, 1]), (102, [0, 1]), (117, [0, 1]), (132, [0, 1]), (147, [0, 1]), (163, [0, 1]), (178, [0, 1]), (193, [0, 1])] 1000 ?_
  show isC u 7 ∧ isC t 7 ∧ 0 = 0 ∧ True ∧ V_X7_copyFrom R 16 [(0, kR t), (1, kR u)] (updm μ t 1 (μ u 1))
  exact ⟨isT_C hu, ⟨isT_C ht, rfl, trivial, H⟩⟩
set_option maxRecDepth 20000 in
theorem vc_X7_copyFrom_16 {R : Mem → Option AV → Prop} {t u : Int} {μ : Mem} (ht : isT t) (hu : isT u) (H : V_X7_copyFrom R 24 [(0, kR t), (1, kR u)] (updm μ t 2 (μ u 2))) : V_X7_copyFrom R 16 [(0, kR t), (1, kR u)] μ := by
  refine vm_step2 mt_X7_copyFrom ok_X7_copyFrom [(8, [0, 1]), (16, [0, 1]), (24, [0, 1]), (32, [0, 1]), (40, [0, 1]), (48, [0, 1]), (56, [0, 1]), (64, [0, 1]), (72, [0, 1]), (87, [0, 1]), (102, [0, 1]), (117, [0, 1]), (132, [0, 1]), (147, [0, 1]), (163, [0, 1]), (178, [0, 1]), (193, [0, 1])] 1000 ?_
  show isC u 7 ∧ isC t 7 ∧ 0 = 0 ∧ True ∧ V_X7_copyFrom R 24 [(0, kR t), (1, kR u)] (updm μ t 2 (μ u 2))
  exact ⟨isT_C hu, ⟨isT_C ht, rfl, trivial, H⟩⟩
set_option maxRecDepth 20000 in
theorem vc_X7_copyFrom_24 {R : Mem → Option AV → Prop} {t u : Int} {μ : Mem} (ht : isT t) (hu : isT u) (H : V_X7_copyFrom R 32 [(0, kR t), (1, kR u)] (updm μ t 3 (μ u 3))) : V_X7_copyFrom R 24 [(0, kR t), (1, kR u)] μ := by
  refine vm_step2 mt_X7_copyFrom ok_X7_copyFrom [(8, [0, 1]), (16, [0, 1]), (24, [0, 1]), (32, [0, 1]), (40, [0, 1]), (48, [0, 1]), (56, [0, 1]), (64, [0, 1]), (72, [0, 1]), (87, [0, 1]), (102, [0, 1]), (117, [0, 1]), (132, [0, 1]), (147, [0, 1]), (163, [0, 1]), (178, [0, 1]), (193, [0, 1])] 1000 ?_
  show isC u 7 ∧ isC t 7 ∧ 0 = 0 ∧ True ∧ V_X7_copyFrom R 32 [(0, kR t), (1, kR u)] (updm μ t 3 (μ u 3))
  exact ⟨isT_C hu, ⟨isT_C ht, rfl, trivial, H⟩⟩
set_option maxRecDepth 20000 in
theorem vc_X7_copyFrom_32 {R : Mem → Option AV → Prop} {t u : Int} {μ : Mem} (ht : isT t) (hu : isT u) (H : V_X7_copyFrom R 40 [(0, kR t), (1, kR u)] (updm μ t 4 (μ u 4))) : V_X7_copyFrom R 32 [(0, kR t), (1, kR u)] μ := by
  refine vm_step2 mt_X7_copyFrom ok_X7_copyFrom [(8, [0, 1]), (16, [0, 1]), (24, [0, 1]), (32, [0, 1]), (40, [0, 1]), (48, [0, 1]), (56, [0, 1]), (64, [0, 1]), (72, [0, 1]), (87, [0, 1]), (102, [0, 1]), (117, [0, 1]), (132, [0, 1]), (147, [0, 1]), (163, [0, 1]), (178, [0, 1]), (193, [0, 1])] 1000 ?_
  show isC u 7 ∧ isC t 7 ∧ 0 = 0 ∧ True ∧ V_X7_copyFrom R 40 [(0, kR t), (1, kR u)] (updm μ t 4 (μ u 4))
  exact ⟨isT_C hu, ⟨isT_C ht, rfl, trivial, H⟩⟩
set_option maxRecDepth 20000 in
theorem vc_X7_copyFrom_40 {R : Mem → Option AV → Prop} {t u : Int} {μ : Mem} (ht : isT t) (hu : isT u) (H : V_X7_copyFrom R 48 [(0, kR t), (1, kR u)] (updm μ t 5 (μ u 5))) : V_X7_copyFrom R 40 [(0, kR t), (1, kR u)] μ := by
  refine vm_step2 mt_X7_copyFrom ok_X7_copyFrom [(8, [0, 1]), (16, [0, 1]), (24, [0, 1]), (32, [0, 1]), (40, [0, 1]), (48, [0, 1]), (56, [0, 1]), (64, [0, 1]), (72, [0, 1]), (87, [0, 1]), (102, [0, 1]), (117, [0, 1]), (132, [0, 1]), (147, [0, 1]), (163, [0, 1]), (178, [0, 1]), (193, [0, 1])] 1000 ?_
  show isC u 7 ∧ isC t 7 ∧ 0 = 0 ∧ True ∧ V_X7_copyFrom R 48 [(0, kR t), (1, kR u)] (updm μ t 5 (μ u 5))
  exact ⟨isT_C hu, ⟨isT_C ht, rfl, trivial, H⟩⟩
set_option maxRecDepth 20000 in
theorem vc_X7_copyFrom_48 {R : Mem → Option AV → Prop} {t u : Int} {μ : Mem} (ht : isT t) (hu : isT u) (H : V_X7_copyFrom R 56 [(0, kR t), (1, kR u)] (updm μ t 6 (μ u 6))) : V_X7_copyFrom R 48 [(0, kR t), (1, kR u)] μ := by
  refine vm_step2 mt_X7_copyFrom ok_X7_copyFrom [(8, [0, 1]), (16, [0, 1]), (24, [0, 1]), (32, [0, 1]), (40, [0, 1]), (48, [0, 1]), (56, [0, 1]), (64, [0, 1]), (72, [0, 1]), (87, [0, 1]), (102, [0, 1]), (117, [0, 1]), (132, [0, 1]), (147, [0, 1]), (163, [0, 1]), (178, [0, 1]), (193, [0, 1])] 1000 ?_
  show isC u 7 ∧ isC t 7 ∧ 0 = 0 ∧ True ∧ V_X7_copyFrom R 56 [(0, kR t), (1, kR u)] (updm μ t 6 (μ u 6))
  exact ⟨isT_C hu, ⟨isT_C ht, rfl, trivial, H⟩⟩
set_option maxRecDepth 20000 in
theorem vc_X7_copyFrom_56 {R : Mem → Option AV → Prop} {t u : Int} {μ : Mem} (ht : isT t) (hu : isT u) (H : V_X7_copyFrom R 64 [(0, kR t), (1, kR u)] (updm μ t 12 (μ u 12))) : V_X7_copyFrom R 56 [(0, kR t), (1, kR u)] μ := by
  refine vm_step2 mt_X7_copyFrom ok_X7_copyFrom [(8, [0, 1]), (16, [0, 1]), (24, [0, 1]), (32, [0, 1]), (40, [0, 1]), (48, [0, 1]), (56, [0, 1]), (64, [0, 1]), (72, [0, 1]), (87, [0, 1]), (102, [0, 1]), (117, [0, 1]), (132, [0, 1]), (147, [0, 1]), (163, [0, 1]), (178, [0, 1]), (193, [0, 1])] 1000 ?_
  show isC u 7 ∧ isC t 7 ∧ 0 = 0 ∧ True ∧ V_X7_copyFrom R 64 [(0, kR t), (1, kR u)] (updm μ t 12 (μ u 12))
  exact ⟨isT_C hu, ⟨isT_C ht, rfl, trivial, H⟩⟩
set_option maxRecDepth 20000 in
theorem vc_X7_copyFrom_64 {R : Mem → Option AV → Prop} {t u : Int} {μ : Mem} (ht : isT t) (hu : isT u) (H : V_X7_copyFrom R 72 [(0, kR t), (1, kR u)] (updm μ t 16 (μ u 16))) : V_X7_copyFrom R 64 [(0, kR t), (1, kR u)] μ := by
  refine vm_step2 mt_X7_copyFrom ok_X7_copyFrom [(8, [0, 1]), (16, [0, 1]), (24, [0, 1]), (32, [0, 1]), (40, [0, 1]), (48, [0, 1]), (56, [0, 1]), (64, [0, 1]), (72, [0, 1]), (87, [0, 1]), (102, [0, 1]), (117, [0, 1]), (132, [0, 1]), (147, [0, 1]), (163, [0, 1]), (178, [0, 1]), (193, [0, 1])] 1000 ?_
  show isC u 7 ∧ isC t 7 ∧ 0 = 0 ∧ True ∧ V_X7_copyFrom R 72 [(0, kR t), (1, kR u)] (updm μ t 16 (μ u 16))
  exact ⟨isT_C hu, ⟨isT_C ht, rfl, trivial, H⟩⟩
set_option maxRecDepth 20000 in
theorem vc_X7_copyFrom_72 {R : Mem → Option AV → Prop} {t u : Int} {μ : Mem} (ht : isT t) (hu : isT u) (H : V_X7_copyFrom R 87 [(0, kR t), (1, kR u)] (seto μ (t + 1) (cpy0 (μ (u + 1)) (μ (t + 1)) 64))) : V_X7_copyFrom R 72 [(0, kR t), (1, kR u)] μ := by
  refine vm_step2 mt_X7_copyFrom ok_X7_copyFrom [(8, [0, 1]), (16, [0, 1]), (24, [0, 1]), (32, [0, 1]), (40, [0, 1]), (48, [0, 1]), (56, [0, 1]), (64, [0, 1]), (72, [0, 1]), (87, [0, 1]), (102, [0, 1]), (117, [0, 1]), (132, [0, 1]), (147, [0, 1]), (163, [0, 1]), (178, [0, 1]), (193, [0, 1])] 1000 ?_
  show isC u 7 ∧ isC t 7 ∧ ((0 : Int) = 0 ∧ (0 : Int) = 0) ∧ ((0 ≤ (u + 1) ∧ (u + 1) < 232) ∧ (LAY (u + 1).toNat).1 = 0) ∧ ((0 ≤ (t + 1) ∧ (t + 1) < 232) ∧ (LAY (t + 1).toNat).1 = 0) ∧ (0 ≤ (64 : Int) ∧ (64 : Int) ≤ ((LAY ((u + 1)).toNat).2 : Int) ∧ (64 : Int) ≤ ((LAY ((t + 1)).toNat).2 : Int)) ∧ (0 = 2 → ∀ j : Int, 0 ≤ j → j < (64 : Int) → -128 ≤ μ (u + 1) j ∧ μ (u + 1) j ≤ 127) ∧ V_X7_copyFrom R 87 [(0, kR t), (1, kR u)] (seto μ (t + 1) (cpy0 (μ (u + 1)) (μ (t + 1)) 64))
  exact ⟨isT_C hu, ⟨isT_C ht, ⟨⟨rfl, rfl⟩, ⟨(T_minutes hu).1, (T_minutes hu).k1⟩, ⟨(T_minutes ht).1, (T_minutes ht).k1⟩, cpl (T_minutes hu) (T_minutes ht) (⟨by omega, by omega⟩ : 0 ≤ (64 : Int) ∧ (64 : Int) ≤ 64) (by decide) (by decide), fun q => absurd q (by decide), H⟩⟩⟩
set_option maxRecDepth 20000 in
theorem vc_X7_copyFrom_87 {R : Mem → Option AV → Prop} {t u : Int} {μ : Mem} (ht : isT t) (hu : isT u) (H : V_X7_copyFrom R 102 [(0, kR t), (1, kR u)] (seto μ (t + 2) (cpy0 (μ (u + 2)) (μ (t + 2)) 64))) : V_X7_copyFrom R 87 [(0, kR t), (1, kR u)] μ := by
  refine vm_step2 mt_X7_copyFrom ok_X7_copyFrom [(8, [0, 1]), (16, [0, 1]), (24, [0, 1]), (32, [0, 1]), (40, [0, 1]), (48, [0, 1]), (56, [0, 1]), (64, [0, 1]), (72, [0, 1]), (87, [0, 1]), (102, [0, 1]), (117, [0, 1]), (132, [0, 1]), (147, [0, 1]), (163, [0, 1]), (178, [0, 1]), (193, [0, 1])] 1000 ?_
  show isC u 7 ∧ isC t 7 ∧ ((0 : Int) = 0 ∧ (0 : Int) = 0) ∧ ((0 ≤ (u + 2) ∧ (u + 2) < 232) ∧ (LAY (u + 2).toNat).1 = 0) ∧ ((0 ≤ (t + 2) ∧ (t + 2) < 232) ∧ (LAY (t + 2).toNat).1 = 0) ∧ (0 ≤ (64 : Int) ∧ (64 : Int) ≤ ((LAY ((u + 2)).toNat).2 : Int) ∧ (64 : Int) ≤ ((LAY ((t + 2)).toNat).2 : Int)) ∧ (0 = 2 → ∀ j : Int, 0 ≤ j → j < (64 : Int) → -128 ≤ μ (u + 2) j ∧ μ (u + 2) j ≤ 127) ∧ V_X7_copyFrom R 102 [(0, kR t), (1, kR u)] (seto μ (t + 2) (cpy0 (μ (u + 2)) (μ (t + 2)) 64))
  exact ⟨isT_C hu, ⟨isT_C ht, ⟨⟨rfl, rfl⟩, ⟨(T_ways hu).1, (T_ways hu).k1⟩, ⟨(T_ways ht).1, (T_ways ht).k1⟩, cpl (T_ways hu) (T_ways ht) (⟨by omega, by omega⟩ : 0 ≤ (64 : Int) ∧ (64 : Int) ≤ 64) (by decide) (by decide), fun q => absurd q (by decide), H⟩⟩⟩
set_option maxRecDepth 20000 in
theorem vc_X7_copyFrom_102 {R : Mem → Option AV → Prop} {t u : Int} {μ : Mem} (ht : isT t) (hu : isT u) (H : V_X7_copyFrom R 117 [(0, kR t), (1, kR u)] (seto μ (t + 3) (cpy0 (μ (u + 3)) (μ (t + 3)) 8))) : V_X7_copyFrom R 102 [(0, kR t), (1, kR u)] μ := by
  refine vm_step2 mt_X7_copyFrom ok_X7_copyFrom [(8, [0, 1]), (16, [0, 1]), (24, [0, 1]), (32, [0, 1]), (40, [0, 1]), (48, [0, 1]), (56, [0, 1]), (64, [0, 1]), (72, [0, 1]), (87, [0, 1]), (102, [0, 1]), (117, [0, 1]), (132, [0, 1]), (147, [0, 1]), (163, [0, 1]), (178, [0, 1]), (193, [0, 1])] 1000 ?_
  show isC u 7 ∧ isC t 7 ∧ ((0 : Int) = 0 ∧ (0 : Int) = 0) ∧ ((0 ≤ (u + 3) ∧ (u + 3) < 232) ∧ (LAY (u + 3).toNat).1 = 0) ∧ ((0 ≤ (t + 3) ∧ (t + 3) < 232) ∧ (LAY (t + 3).toNat).1 = 0) ∧ (0 ≤ (8 : Int) ∧ (8 : Int) ≤ ((LAY ((u + 3)).toNat).2 : Int) ∧ (8 : Int) ≤ ((LAY ((t + 3)).toNat).2 : Int)) ∧ (0 = 2 → ∀ j : Int, 0 ≤ j → j < (8 : Int) → -128 ≤ μ (u + 3) j ∧ μ (u + 3) j ≤ 127) ∧ V_X7_copyFrom R 117 [(0, kR t), (1, kR u)] (seto μ (t + 3) (cpy0 (μ (u + 3)) (μ (t + 3)) 8))
  exact ⟨isT_C hu, ⟨isT_C ht, ⟨⟨rfl, rfl⟩, ⟨(T_chance hu).1, (T_chance hu).k1⟩, ⟨(T_chance ht).1, (T_chance ht).k1⟩, cpl (T_chance hu) (T_chance ht) (⟨by omega, by omega⟩ : 0 ≤ (8 : Int) ∧ (8 : Int) ≤ 8) (by decide) (by decide), fun q => absurd q (by decide), H⟩⟩⟩
set_option maxRecDepth 20000 in
theorem vc_X7_copyFrom_117 {R : Mem → Option AV → Prop} {t u : Int} {μ : Mem} (ht : isT t) (hu : isT u) (H : V_X7_copyFrom R 132 [(0, kR t), (1, kR u)] (seto μ (t + 4) (cpy0 (μ (u + 4)) (μ (t + 4)) 8))) : V_X7_copyFrom R 117 [(0, kR t), (1, kR u)] μ := by
  refine vm_step2 mt_X7_copyFrom ok_X7_copyFrom [(8, [0, 1]), (16, [0, 1]), (24, [0, 1]), (32, [0, 1]), (40, [0, 1]), (48, [0, 1]), (56, [0, 1]), (64, [0, 1]), (72, [0, 1]), (87, [0, 1]), (102, [0, 1]), (117, [0, 1]), (132, [0, 1]), (147, [0, 1]), (163, [0, 1]), (178, [0, 1]), (193, [0, 1])] 1000 ?_
  show isC u 7 ∧ isC t 7 ∧ ((0 : Int) = 0 ∧ (0 : Int) = 0) ∧ ((0 ≤ (u + 4) ∧ (u + 4) < 232) ∧ (LAY (u + 4).toNat).1 = 0) ∧ ((0 ≤ (t + 4) ∧ (t + 4) < 232) ∧ (LAY (t + 4).toNat).1 = 0) ∧ (0 ≤ (8 : Int) ∧ (8 : Int) ≤ ((LAY ((u + 4)).toNat).2 : Int) ∧ (8 : Int) ≤ ((LAY ((t + 4)).toNat).2 : Int)) ∧ (0 = 2 → ∀ j : Int, 0 ≤ j → j < (8 : Int) → -128 ≤ μ (u + 4) j ∧ μ (u + 4) j ≤ 127) ∧ V_X7_copyFrom R 132 [(0, kR t), (1, kR u)] (seto μ (t + 4) (cpy0 (μ (u + 4)) (μ (t + 4)) 8))
  exact ⟨isT_C hu, ⟨isT_C ht, ⟨⟨rfl, rfl⟩, ⟨(T_dog hu).1, (T_dog hu).k1⟩, ⟨(T_dog ht).1, (T_dog ht).k1⟩, cpl (T_dog hu) (T_dog ht) (⟨by omega, by omega⟩ : 0 ≤ (8 : Int) ∧ (8 : Int) ≤ 8) (by decide) (by decide), fun q => absurd q (by decide), H⟩⟩⟩
set_option maxRecDepth 20000 in
theorem vc_X7_copyFrom_132 {R : Mem → Option AV → Prop} {t u : Int} {μ : Mem} (ht : isT t) (hu : isT u) (H : V_X7_copyFrom R 147 [(0, kR t), (1, kR u)] (seto μ (t + 5) (cpy0 (μ (u + 5)) (μ (t + 5)) 8))) : V_X7_copyFrom R 132 [(0, kR t), (1, kR u)] μ := by
  refine vm_step2 mt_X7_copyFrom ok_X7_copyFrom [(8, [0, 1]), (16, [0, 1]), (24, [0, 1]), (32, [0, 1]), (40, [0, 1]), (48, [0, 1]), (56, [0, 1]), (64, [0, 1]), (72, [0, 1]), (87, [0, 1]), (102, [0, 1]), (117, [0, 1]), (132, [0, 1]), (147, [0, 1]), (163, [0, 1]), (178, [0, 1]), (193, [0, 1])] 1000 ?_
  show isC u 7 ∧ isC t 7 ∧ ((0 : Int) = 0 ∧ (0 : Int) = 0) ∧ ((0 ≤ (u + 5) ∧ (u + 5) < 232) ∧ (LAY (u + 5).toNat).1 = 0) ∧ ((0 ≤ (t + 5) ∧ (t + 5) < 232) ∧ (LAY (t + 5).toNat).1 = 0) ∧ (0 ≤ (8 : Int) ∧ (8 : Int) ≤ ((LAY ((u + 5)).toNat).2 : Int) ∧ (8 : Int) ≤ ((LAY ((t + 5)).toNat).2 : Int)) ∧ (0 = 2 → ∀ j : Int, 0 ≤ j → j < (8 : Int) → -128 ≤ μ (u + 5) j ∧ μ (u + 5) j ≤ 127) ∧ V_X7_copyFrom R 147 [(0, kR t), (1, kR u)] (seto μ (t + 5) (cpy0 (μ (u + 5)) (μ (t + 5)) 8))
  exact ⟨isT_C hu, ⟨isT_C ht, ⟨⟨rfl, rfl⟩, ⟨(T_dig hu).1, (T_dig hu).k1⟩, ⟨(T_dig ht).1, (T_dig ht).k1⟩, cpl (T_dig hu) (T_dig ht) (⟨by omega, by omega⟩ : 0 ≤ (8 : Int) ∧ (8 : Int) ≤ 8) (by decide) (by decide), fun q => absurd q (by decide), H⟩⟩⟩
set_option maxRecDepth 20000 in
theorem vc_X7_copyFrom_147 {R : Mem → Option AV → Prop} {t u : Int} {μ : Mem} (ht : isT t) (hu : isT u) (H : V_X7_copyFrom R 163 [(0, kR t), (1, kR u)] (seto μ (t + 6) (cpy0 (μ (u + 6)) (μ (t + 6)) 128))) : V_X7_copyFrom R 147 [(0, kR t), (1, kR u)] μ := by
  refine vm_step2 mt_X7_copyFrom ok_X7_copyFrom [(8, [0, 1]), (16, [0, 1]), (24, [0, 1]), (32, [0, 1]), (40, [0, 1]), (48, [0, 1]), (56, [0, 1]), (64, [0, 1]), (72, [0, 1]), (87, [0, 1]), (102, [0, 1]), (117, [0, 1]), (132, [0, 1]), (147, [0, 1]), (163, [0, 1]), (178, [0, 1]), (193, [0, 1])] 1000 ?_
  show isC u 7 ∧ isC t 7 ∧ ((0 : Int) = 0 ∧ (0 : Int) = 0) ∧ ((0 ≤ (u + 6) ∧ (u + 6) < 232) ∧ (LAY (u + 6).toNat).1 = 0) ∧ ((0 ≤ (t + 6) ∧ (t + 6) < 232) ∧ (LAY (t + 6).toNat).1 = 0) ∧ (0 ≤ (128 : Int) ∧ (128 : Int) ≤ ((LAY ((u + 6)).toNat).2 : Int) ∧ (128 : Int) ≤ ((LAY ((t + 6)).toNat).2 : Int)) ∧ (0 = 2 → ∀ j : Int, 0 ≤ j → j < (128 : Int) → -128 ≤ μ (u + 6) j ∧ μ (u + 6) j ≤ 127) ∧ V_X7_copyFrom R 163 [(0, kR t), (1, kR u)] (seto μ (t + 6) (cpy0 (μ (u + 6)) (μ (t + 6)) 128))
  exact ⟨isT_C hu, ⟨isT_C ht, ⟨⟨rfl, rfl⟩, ⟨(T_stops hu).1, (T_stops hu).k1⟩, ⟨(T_stops ht).1, (T_stops ht).k1⟩, cpl (T_stops hu) (T_stops ht) (⟨by omega, by omega⟩ : 0 ≤ (128 : Int) ∧ (128 : Int) ≤ 128) (by decide) (by decide), fun q => absurd q (by decide), H⟩⟩⟩
set_option maxRecDepth 20000 in
theorem vc_X7_copyFrom_163 {R : Mem → Option AV → Prop} {t u : Int} {μ : Mem} (ht : isT t) (hu : isT u) (H : V_X7_copyFrom R 178 [(0, kR t), (1, kR u)] (seto μ (t + 7) (cpy0 (μ (u + 7)) (μ (t + 7)) 8))) : V_X7_copyFrom R 163 [(0, kR t), (1, kR u)] μ := by
  refine vm_step2 mt_X7_copyFrom ok_X7_copyFrom [(8, [0, 1]), (16, [0, 1]), (24, [0, 1]), (32, [0, 1]), (40, [0, 1]), (48, [0, 1]), (56, [0, 1]), (64, [0, 1]), (72, [0, 1]), (87, [0, 1]), (102, [0, 1]), (117, [0, 1]), (132, [0, 1]), (147, [0, 1]), (163, [0, 1]), (178, [0, 1]), (193, [0, 1])] 1000 ?_
  show isC u 7 ∧ isC t 7 ∧ ((0 : Int) = 0 ∧ (0 : Int) = 0) ∧ ((0 ≤ (u + 7) ∧ (u + 7) < 232) ∧ (LAY (u + 7).toNat).1 = 0) ∧ ((0 ≤ (t + 7) ∧ (t + 7) < 232) ∧ (LAY (t + 7).toNat).1 = 0) ∧ (0 ≤ (8 : Int) ∧ (8 : Int) ≤ ((LAY ((u + 7)).toNat).2 : Int) ∧ (8 : Int) ≤ ((LAY ((t + 7)).toNat).2 : Int)) ∧ (0 = 2 → ∀ j : Int, 0 ≤ j → j < (8 : Int) → -128 ≤ μ (u + 7) j ∧ μ (u + 7) j ≤ 127) ∧ V_X7_copyFrom R 178 [(0, kR t), (1, kR u)] (seto μ (t + 7) (cpy0 (μ (u + 7)) (μ (t + 7)) 8))
  exact ⟨isT_C hu, ⟨isT_C ht, ⟨⟨rfl, rfl⟩, ⟨(T_stopCount hu).1, (T_stopCount hu).k1⟩, ⟨(T_stopCount ht).1, (T_stopCount ht).k1⟩, cpl (T_stopCount hu) (T_stopCount ht) (⟨by omega, by omega⟩ : 0 ≤ (8 : Int) ∧ (8 : Int) ≤ 8) (by decide) (by decide), fun q => absurd q (by decide), H⟩⟩⟩
set_option maxRecDepth 20000 in
theorem vc_X7_copyFrom_178 {R : Mem → Option AV → Prop} {t u : Int} {μ : Mem} (ht : isT t) (hu : isT u) (H : V_X7_copyFrom R 193 [(0, kR t), (1, kR u)] (seto μ (t + 8) (cpy0 (μ (u + 8)) (μ (t + 8)) 8))) : V_X7_copyFrom R 178 [(0, kR t), (1, kR u)] μ := by
  refine vm_step2 mt_X7_copyFrom ok_X7_copyFrom [(8, [0, 1]), (16, [0, 1]), (24, [0, 1]), (32, [0, 1]), (40, [0, 1]), (48, [0, 1]), (56, [0, 1]), (64, [0, 1]), (72, [0, 1]), (87, [0, 1]), (102, [0, 1]), (117, [0, 1]), (132, [0, 1]), (147, [0, 1]), (163, [0, 1]), (178, [0, 1]), (193, [0, 1])] 1000 ?_
  show isC u 7 ∧ isC t 7 ∧ ((0 : Int) = 0 ∧ (0 : Int) = 0) ∧ ((0 ≤ (u + 8) ∧ (u + 8) < 232) ∧ (LAY (u + 8).toNat).1 = 0) ∧ ((0 ≤ (t + 8) ∧ (t + 8) < 232) ∧ (LAY (t + 8).toNat).1 = 0) ∧ (0 ≤ (8 : Int) ∧ (8 : Int) ≤ ((LAY ((u + 8)).toNat).2 : Int) ∧ (8 : Int) ≤ ((LAY ((t + 8)).toNat).2 : Int)) ∧ (0 = 2 → ∀ j : Int, 0 ≤ j → j < (8 : Int) → -128 ≤ μ (u + 8) j ∧ μ (u + 8) j ≤ 127) ∧ V_X7_copyFrom R 193 [(0, kR t), (1, kR u)] (seto μ (t + 8) (cpy0 (μ (u + 8)) (μ (t + 8)) 8))
  exact ⟨isT_C hu, ⟨isT_C ht, ⟨⟨rfl, rfl⟩, ⟨(T_weight hu).1, (T_weight hu).k1⟩, ⟨(T_weight ht).1, (T_weight ht).k1⟩, cpl (T_weight hu) (T_weight ht) (⟨by omega, by omega⟩ : 0 ≤ (8 : Int) ∧ (8 : Int) ≤ 8) (by decide) (by decide), fun q => absurd q (by decide), H⟩⟩⟩
set_option maxRecDepth 20000 in
theorem vc_X7_copyFrom_193 {R : Mem → Option AV → Prop} {t u : Int} {μ : Mem} (ht : isT t) (hu : isT u) (H : R (seto μ (t + 9) (cpy0 (μ (u + 9)) (μ (t + 9)) 7)) none) : V_X7_copyFrom R 193 [(0, kR t), (1, kR u)] μ := by
  refine vm_step2 mt_X7_copyFrom ok_X7_copyFrom [(8, [0, 1]), (16, [0, 1]), (24, [0, 1]), (32, [0, 1]), (40, [0, 1]), (48, [0, 1]), (56, [0, 1]), (64, [0, 1]), (72, [0, 1]), (87, [0, 1]), (102, [0, 1]), (117, [0, 1]), (132, [0, 1]), (147, [0, 1]), (163, [0, 1]), (178, [0, 1]), (193, [0, 1])] 1000 ?_
  show isC u 7 ∧ isC t 7 ∧ ((0 : Int) = 0 ∧ (0 : Int) = 0) ∧ ((0 ≤ (u + 9) ∧ (u + 9) < 232) ∧ (LAY (u + 9).toNat).1 = 0) ∧ ((0 ≤ (t + 9) ∧ (t + 9) < 232) ∧ (LAY (t + 9).toNat).1 = 0) ∧ (0 ≤ (7 : Int) ∧ (7 : Int) ≤ ((LAY ((u + 9)).toNat).2 : Int) ∧ (7 : Int) ≤ ((LAY ((t + 9)).toNat).2 : Int)) ∧ (0 = 2 → ∀ j : Int, 0 ≤ j → j < (7 : Int) → -128 ≤ μ (u + 9) j ∧ μ (u + 9) j ≤ 127) ∧ R (seto μ (t + 9) (cpy0 (μ (u + 9)) (μ (t + 9)) 7)) none
  exact ⟨isT_C hu, ⟨isT_C ht, ⟨⟨rfl, rfl⟩, ⟨(T_diary hu).1, (T_diary hu).k1⟩, ⟨(T_diary ht).1, (T_diary ht).k1⟩, cpl (T_diary hu) (T_diary ht) (⟨by omega, by omega⟩ : 0 ≤ (7 : Int) ∧ (7 : Int) ≤ 7) (by decide) (by decide), fun q => absurd q (by decide), H⟩⟩⟩
theorem body_X7_copyFrom {t u : Int} {μ : Mem} {R : Mem → Option AV → Prop} (h : P_X7_copyFrom t u μ) (hR : ∀ μ' : Mem, Q_X7_copyFrom t u μ μ' → R μ' none) : V_X7_copyFrom R 0 [(0, kR t), (1, kR u)] μ := by
  obtain ⟨ht, hu, hne⟩ := h
  have hap := towns_apart ht hu hne
  obtain ⟨m0, e0⟩ : ∃ x, x = μ := ⟨_, rfl⟩
  rw [← e0]
  obtain ⟨m1, e1⟩ : ∃ x, x = updm m0 t 0 (m0 u 0) := ⟨_, rfl⟩
  refine vc_X7_copyFrom_0 ht hu ?_
  rw [← e1]
  obtain ⟨m2, e2⟩ : ∃ x, x = updm m1 t 1 (m1 u 1) := ⟨_, rfl⟩
  refine vc_X7_copyFrom_8 ht hu ?_
  rw [← e2]
  obtain ⟨m3, e3⟩ : ∃ x, x = updm m2 t 2 (m2 u 2) := ⟨_, rfl⟩
  refine vc_X7_copyFrom_16 ht hu ?_
  rw [← e3]
  obtain ⟨m4, e4⟩ : ∃ x, x = updm m3 t 3 (m3 u 3) := ⟨_, rfl⟩
  refine vc_X7_copyFrom_24 ht hu ?_
  rw [← e4]
  obtain ⟨m5, e5⟩ : ∃ x, x = updm m4 t 4 (m4 u 4) := ⟨_, rfl⟩
  refine vc_X7_copyFrom_32 ht hu ?_
  rw [← e5]
  obtain ⟨m6, e6⟩ : ∃ x, x = updm m5 t 5 (m5 u 5) := ⟨_, rfl⟩
  refine vc_X7_copyFrom_40 ht hu ?_
  rw [← e6]
  obtain ⟨m7, e7⟩ : ∃ x, x = updm m6 t 6 (m6 u 6) := ⟨_, rfl⟩
  refine vc_X7_copyFrom_48 ht hu ?_
  rw [← e7]
  obtain ⟨m8, e8⟩ : ∃ x, x = updm m7 t 12 (m7 u 12) := ⟨_, rfl⟩
  refine vc_X7_copyFrom_56 ht hu ?_
  rw [← e8]
  obtain ⟨m9, e9⟩ : ∃ x, x = updm m8 t 16 (m8 u 16) := ⟨_, rfl⟩
  refine vc_X7_copyFrom_64 ht hu ?_
  rw [← e9]
  obtain ⟨m10, e10⟩ : ∃ x, x = seto m9 (t + 1) (cpy0 (m9 (u + 1)) (m9 (t + 1)) 64) := ⟨_, rfl⟩
  refine vc_X7_copyFrom_72 ht hu ?_
  rw [← e10]
  obtain ⟨m11, e11⟩ : ∃ x, x = seto m10 (t + 2) (cpy0 (m10 (u + 2)) (m10 (t + 2)) 64) := ⟨_, rfl⟩
  refine vc_X7_copyFrom_87 ht hu ?_
  rw [← e11]
  obtain ⟨m12, e12⟩ : ∃ x, x = seto m11 (t + 3) (cpy0 (m11 (u + 3)) (m11 (t + 3)) 8) := ⟨_, rfl⟩
  refine vc_X7_copyFrom_102 ht hu ?_
  rw [← e12]
  obtain ⟨m13, e13⟩ : ∃ x, x = seto m12 (t + 4) (cpy0 (m12 (u + 4)) (m12 (t + 4)) 8) := ⟨_, rfl⟩
  refine vc_X7_copyFrom_117 ht hu ?_
  rw [← e13]
  obtain ⟨m14, e14⟩ : ∃ x, x = seto m13 (t + 5) (cpy0 (m13 (u + 5)) (m13 (t + 5)) 8) := ⟨_, rfl⟩
  refine vc_X7_copyFrom_132 ht hu ?_
  rw [← e14]
  obtain ⟨m15, e15⟩ : ∃ x, x = seto m14 (t + 6) (cpy0 (m14 (u + 6)) (m14 (t + 6)) 128) := ⟨_, rfl⟩
  refine vc_X7_copyFrom_147 ht hu ?_
  rw [← e15]
  obtain ⟨m16, e16⟩ : ∃ x, x = seto m15 (t + 7) (cpy0 (m15 (u + 7)) (m15 (t + 7)) 8) := ⟨_, rfl⟩
  refine vc_X7_copyFrom_163 ht hu ?_
  rw [← e16]
  obtain ⟨m17, e17⟩ : ∃ x, x = seto m16 (t + 8) (cpy0 (m16 (u + 8)) (m16 (t + 8)) 8) := ⟨_, rfl⟩
  refine vc_X7_copyFrom_178 ht hu ?_
  rw [← e17]
  obtain ⟨m18, e18⟩ : ∃ x, x = seto m17 (t + 9) (cpy0 (m17 (u + 9)) (m17 (t + 9)) 7) := ⟨_, rfl⟩
  refine vc_X7_copyFrom_193 ht hu ?_
  rw [← e18]
  refine hR m18 ⟨⟨?_, ?_, ?_, ?_, ?_⟩, ?_⟩
  · have f0 : m18 t = m9 t := by rw [e18, rs_ne (by omega), e17, rs_ne (by omega), e16, rs_ne (by omega), e15, rs_ne (by omega), e14, rs_ne (by omega), e13, rs_ne (by omega), e12, rs_ne (by omega), e11, rs_ne (by omega), e10, rs_ne (by omega)]
    have g0 : m9 t 0 = μ u 0 := by rw [e9, ru_eq, r1_ne (by omega), e8, ru_eq, r1_ne (by omega), e7, ru_eq, r1_ne (by omega), e6, ru_eq, r1_ne (by omega), e5, ru_eq, r1_ne (by omega), e4, ru_eq, r1_ne (by omega), e3, ru_eq, r1_ne (by omega), e2, ru_eq, r1_ne (by omega), e1, ru_eq, r1_eq, e0]
    have g1 : m9 t 1 = μ u 1 := by rw [e9, ru_eq, r1_ne (by omega), e8, ru_eq, r1_ne (by omega), e7, ru_eq, r1_ne (by omega), e6, ru_eq, r1_ne (by omega), e5, ru_eq, r1_ne (by omega), e4, ru_eq, r1_ne (by omega), e3, ru_eq, r1_ne (by omega), e2, ru_eq, r1_eq, e1, ru_ne (by omega), e0]
    have g2 : m9 t 2 = μ u 2 := by rw [e9, ru_eq, r1_ne (by omega), e8, ru_eq, r1_ne (by omega), e7, ru_eq, r1_ne (by omega), e6, ru_eq, r1_ne (by omega), e5, ru_eq, r1_ne (by omega), e4, ru_eq, r1_ne (by omega), e3, ru_eq, r1_eq, e2, ru_ne (by omega), e1, ru_ne (by omega), e0]
    have g3 : m9 t 3 = μ u 3 := by rw [e9, ru_eq, r1_ne (by omega), e8, ru_eq, r1_ne (by omega), e7, ru_eq, r1_ne (by omega), e6, ru_eq, r1_ne (by omega), e5, ru_eq, r1_ne (by omega), e4, ru_eq, r1_eq, e3, ru_ne (by omega), e2, ru_ne (by omega), e1, ru_ne (by omega), e0]
    have g4 : m9 t 4 = μ u 4 := by rw [e9, ru_eq, r1_ne (by omega), e8, ru_eq, r1_ne (by omega), e7, ru_eq, r1_ne (by omega), e6, ru_eq, r1_ne (by omega), e5, ru_eq, r1_eq, e4, ru_ne (by omega), e3, ru_ne (by omega), e2, ru_ne (by omega), e1, ru_ne (by omega), e0]
    have g5 : m9 t 5 = μ u 5 := by rw [e9, ru_eq, r1_ne (by omega), e8, ru_eq, r1_ne (by omega), e7, ru_eq, r1_ne (by omega), e6, ru_eq, r1_eq, e5, ru_ne (by omega), e4, ru_ne (by omega), e3, ru_ne (by omega), e2, ru_ne (by omega), e1, ru_ne (by omega), e0]
    have g6 : m9 t 6 = μ u 6 := by rw [e9, ru_eq, r1_ne (by omega), e8, ru_eq, r1_ne (by omega), e7, ru_eq, r1_eq, e6, ru_ne (by omega), e5, ru_ne (by omega), e4, ru_ne (by omega), e3, ru_ne (by omega), e2, ru_ne (by omega), e1, ru_ne (by omega), e0]
    have g7 : m9 t 12 = μ u 12 := by rw [e9, ru_eq, r1_ne (by omega), e8, ru_eq, r1_eq, e7, ru_ne (by omega), e6, ru_ne (by omega), e5, ru_ne (by omega), e4, ru_ne (by omega), e3, ru_ne (by omega), e2, ru_ne (by omega), e1, ru_ne (by omega), e0]
    have g8 : m9 t 16 = μ u 16 := by rw [e9, ru_eq, r1_eq, e8, ru_ne (by omega), e7, ru_ne (by omega), e6, ru_ne (by omega), e5, ru_ne (by omega), e4, ru_ne (by omega), e3, ru_ne (by omega), e2, ru_ne (by omega), e1, ru_ne (by omega), e0]
    intro k hk
    rw [f0]
    rcases (show k = 0 ∨ k = 1 ∨ k = 2 ∨ k = 3 ∨ k = 4 ∨ k = 5 ∨ k = 6 ∨ k = 12 ∨ k = 16 by omega) with rfl | rfl | rfl | rfl | rfl | rfl | rfl | rfl | rfl
    · exact g0
    · exact g1
    · exact g2
    · exact g3
    · exact g4
    · exact g5
    · exact g6
    · exact g7
    · exact g8
  · exact fun j j0 j1 => ⟨by rw [e18, rs_ne (by omega), e17, rs_ne (by omega), e16, rs_ne (by omega), e15, rs_ne (by omega), e14, rs_ne (by omega), e13, rs_ne (by omega), e12, rs_ne (by omega), e11, rs_ne (by omega), e10, rs_eq, cpy_in j0 j1, e9, ru_ne (by omega), e8, ru_ne (by omega), e7, ru_ne (by omega), e6, ru_ne (by omega), e5, ru_ne (by omega), e4, ru_ne (by omega), e3, ru_ne (by omega), e2, ru_ne (by omega), e1, ru_ne (by omega), e0], by rw [e18, rs_ne (by omega), e17, rs_ne (by omega), e16, rs_ne (by omega), e15, rs_ne (by omega), e14, rs_ne (by omega), e13, rs_ne (by omega), e12, rs_ne (by omega), e11, rs_eq, cpy_in j0 j1, e10, rs_ne (by omega), e9, ru_ne (by omega), e8, ru_ne (by omega), e7, ru_ne (by omega), e6, ru_ne (by omega), e5, ru_ne (by omega), e4, ru_ne (by omega), e3, ru_ne (by omega), e2, ru_ne (by omega), e1, ru_ne (by omega), e0]⟩
  · exact fun j j0 j1 => ⟨by rw [e18, rs_ne (by omega), e17, rs_ne (by omega), e16, rs_ne (by omega), e15, rs_ne (by omega), e14, rs_ne (by omega), e13, rs_ne (by omega), e12, rs_eq, cpy_in j0 j1, e11, rs_ne (by omega), e10, rs_ne (by omega), e9, ru_ne (by omega), e8, ru_ne (by omega), e7, ru_ne (by omega), e6, ru_ne (by omega), e5, ru_ne (by omega), e4, ru_ne (by omega), e3, ru_ne (by omega), e2, ru_ne (by omega), e1, ru_ne (by omega), e0], by rw [e18, rs_ne (by omega), e17, rs_ne (by omega), e16, rs_ne (by omega), e15, rs_ne (by omega), e14, rs_ne (by omega), e13, rs_eq, cpy_in j0 j1, e12, rs_ne (by omega), e11, rs_ne (by omega), e10, rs_ne (by omega), e9, ru_ne (by omega), e8, ru_ne (by omega), e7, ru_ne (by omega), e6, ru_ne (by omega), e5, ru_ne (by omega), e4, ru_ne (by omega), e3, ru_ne (by omega), e2, ru_ne (by omega), e1, ru_ne (by omega), e0], by rw [e18, rs_ne (by omega), e17, rs_ne (by omega), e16, rs_ne (by omega), e15, rs_ne (by omega), e14, rs_eq, cpy_in j0 j1, e13, rs_ne (by omega), e12, rs_ne (by omega), e11, rs_ne (by omega), e10, rs_ne (by omega), e9, ru_ne (by omega), e8, ru_ne (by omega), e7, ru_ne (by omega), e6, ru_ne (by omega), e5, ru_ne (by omega), e4, ru_ne (by omega), e3, ru_ne (by omega), e2, ru_ne (by omega), e1, ru_ne (by omega), e0], by rw [e18, rs_ne (by omega), e17, rs_ne (by omega), e16, rs_eq, cpy_in j0 j1, e15, rs_ne (by omega), e14, rs_ne (by omega), e13, rs_ne (by omega), e12, rs_ne (by omega), e11, rs_ne (by omega), e10, rs_ne (by omega), e9, ru_ne (by omega), e8, ru_ne (by omega), e7, ru_ne (by omega), e6, ru_ne (by omega), e5, ru_ne (by omega), e4, ru_ne (by omega), e3, ru_ne (by omega), e2, ru_ne (by omega), e1, ru_ne (by omega), e0], by rw [e18, rs_ne (by omega), e17, rs_eq, cpy_in j0 j1, e16, rs_ne (by omega), e15, rs_ne (by omega), e14, rs_ne (by omega), e13, rs_ne (by omega), e12, rs_ne (by omega), e11, rs_ne (by omega), e10, rs_ne (by omega), e9, ru_ne (by omega), e8, ru_ne (by omega), e7, ru_ne (by omega), e6, ru_ne (by omega), e5, ru_ne (by omega), e4, ru_ne (by omega), e3, ru_ne (by omega), e2, ru_ne (by omega), e1, ru_ne (by omega), e0]⟩
  · exact fun j j0 j1 => by rw [e18, rs_ne (by omega), e17, rs_ne (by omega), e16, rs_ne (by omega), e15, rs_eq, cpy_in j0 j1, e14, rs_ne (by omega), e13, rs_ne (by omega), e12, rs_ne (by omega), e11, rs_ne (by omega), e10, rs_ne (by omega), e9, ru_ne (by omega), e8, ru_ne (by omega), e7, ru_ne (by omega), e6, ru_ne (by omega), e5, ru_ne (by omega), e4, ru_ne (by omega), e3, ru_ne (by omega), e2, ru_ne (by omega), e1, ru_ne (by omega), e0]
  · exact fun j j0 j1 => by rw [e18, rs_eq, cpy_in j0 j1, e17, rs_ne (by omega), e16, rs_ne (by omega), e15, rs_ne (by omega), e14, rs_ne (by omega), e13, rs_ne (by omega), e12, rs_ne (by omega), e11, rs_ne (by omega), e10, rs_ne (by omega), e9, ru_ne (by omega), e8, ru_ne (by omega), e7, ru_ne (by omega), e6, ru_ne (by omega), e5, ru_ne (by omega), e4, ru_ne (by omega), e3, ru_ne (by omega), e2, ru_ne (by omega), e1, ru_ne (by omega), e0]
  · intro z hz
    rw [e18, rs_ne (by omega), e17, rs_ne (by omega), e16, rs_ne (by omega), e15, rs_ne (by omega), e14, rs_ne (by omega), e13, rs_ne (by omega), e12, rs_ne (by omega), e11, rs_ne (by omega), e10, rs_ne (by omega), e9, ru_ne (by omega), e8, ru_ne (by omega), e7, ru_ne (by omega), e6, ru_ne (by omega), e5, ru_ne (by omega), e4, ru_ne (by omega), e3, ru_ne (by omega), e2, ru_ne (by omega), e1, ru_ne (by omega), e0]
theorem ct_X7_copyFrom : Ct mX7_copyFrom 1 60 0 0 (nrmS S_X7_copyFrom) := by
  refine ct_vm (own := RX7) (by decide +kernel) rfl ?_ ?_
  · intro as μ Q hS
    unfold S_X7_copyFrom at hS
    split at hS
    · exact Nat.le_of_ble_eq_true rfl
    · exact hS.elim
  · intro as μ R hS
    unfold S_X7_copyFrom at hS
    split at hS
    · exact body_X7_copyFrom hS.1 hS.2
    · exact hS.elim
def addLV (v : TV) (a b k : Int) : TV := fun f => match f with
  | 1 => fun _ => v 1 0 + 1
  | 7 => fun j => if j = 8 * b + a ∨ j = 8 * a + b then k else v 7 j
  | f => v f
def P_X7_addLane (t a b _ : Int) (_ : Mem) : Prop := isT t ∧ (0 ≤ a ∧ a < 8) ∧ (0 ≤ b ∧ b < 8)
def Q_X7_addLane (t a b k : Int) (μ μ' : Mem) : Prop := tv μ' t = addLV (tv μ t) a b k ∧ Same μ μ' t (t + 9)
def S_X7_addLane : S0t := fun as μ Q => match as with
  | [(2, x0), (0, x1), (0, x2), (0, x3)] => P_X7_addLane x0 x1 x2 x3 μ ∧ ∀ (μ' : Mem) , Q_X7_addLane x0 x1 x2 x3 μ μ'  → Q μ' none
  | _ => False
theorem mono_X7_addLane : Mono S_X7_addLane := by
  intro as μ Q Q' h hS
  unfold S_X7_addLane at hS ⊢
  split at hS
  · exact ⟨hS.1, fun μ' q => h _ _ (hS.2 _ q)⟩
  · exact hS.elim
def iX7_addLane : Inf := (kX7_addLane, fTX7, pTX7, cTX7, lTX7, sTX7, [])
theorem ok_X7_addLane : infOK iX7_addLane mX7_addLane RX7 0 0 := ⟨kkX7_addLane, fTX7_ok, pTX7_ok _, cTX7_ok, lTX7_ok, sTX7_ok, c_nil⟩
theorem mt_X7_addLane : mtOK [] RX7 0 0 := mt_nil
abbrev V_X7_addLane (R : Mem → Option AV → Prop) (pc : Nat) (lc : List (Nat × AV)) (μ : Mem) : Prop := VM mX7_addLane RX7 0 0 R pc lc [] μ
set_option maxRecDepth 20000 in
theorem vc_X7_addLane_0 {R : Mem → Option AV → Prop} {a b k t : Int} {μ : Mem} (ht : isT t) (H : (0 ≤ ((a * 8) + b) ∧ ((a * 8) + b) < 64) ∧ (0 ≤ ((b * 8) + a) ∧ ((b * 8) + a) < 64) ∧ R (updm (updm (updm μ (t + 1) ((a * 8) + b) k) (t + 1) ((b * 8) + a) k) t 2 (((updm (updm μ (t + 1) ((a * 8) + b) k) (t + 1) ((b * 8) + a) k) t 2) + 1)) none) : V_X7_addLane R 0 [(0, kR t), (1, kI a), (2, kI b), (3, kI k)] μ := by
  refine vm_step2 mt_X7_addLane ok_X7_addLane [] 1000 ?_
  show isC t 7 ∧ inA (t + 1) 0 ((a * 8) + b) ∧ isC t 7 ∧ inA (t + 1) 0 ((b * 8) + a) ∧ isC t 7 ∧ isC t 7 ∧ 0 = 0 ∧ True ∧ R (updm (updm (updm μ (t + 1) ((a * 8) + b) k) (t + 1) ((b * 8) + a) k) t 2 (((updm (updm μ (t + 1) ((a * 8) + b) k) (t + 1) ((b * 8) + a) k) t 2) + 1)) none
  exact ⟨isT_C ht, ⟨isArr.in (T_minutes ht) H.1.1 H.1.2, ⟨isT_C ht, ⟨isArr.in (T_minutes ht) H.2.1.1 H.2.1.2, ⟨isT_C ht, ⟨isT_C ht, rfl, trivial, H.2.2⟩⟩⟩⟩⟩⟩
theorem body_X7_addLane {t a b k : Int} {μ : Mem} {R : Mem → Option AV → Prop} (h : P_X7_addLane t a b k μ) (hR : ∀ μ' : Mem, Q_X7_addLane t a b k μ μ' → R μ' none) : V_X7_addLane R 0 [(0, kR t), (1, kI a), (2, kI b), (3, kI k)] μ := by
  obtain ⟨ht, ha, hb⟩ := h
  have ea : a * 8 + b = 8 * a + b := by omega
  have eb : b * 8 + a = 8 * b + a := by omega
  refine vc_X7_addLane_0 ht ⟨by omega, by omega, hR _ ⟨?_, ?_⟩⟩
  · rw [ea, eb]
    have o : ∀ c : Int, c ≠ 0 → t + c ≠ t := fun c h => by omega
    funext f j
    match f with
    | 0 => simp (disch := omega) only [tv, addLV, ru_ne, ru_eq, r1_ne]
    | 1 => simp (disch := omega) only [tv, addLV, ru_ne, ru_eq, r1_eq]
    | 2 => simp (disch := omega) only [tv, addLV, ru_ne, ru_eq, r1_ne]
    | 3 => simp (disch := omega) only [tv, addLV, ru_ne, ru_eq, r1_ne]
    | 4 => simp (disch := omega) only [tv, addLV, ru_ne, ru_eq, r1_ne]
    | 5 => simp (disch := omega) only [tv, addLV, ru_ne, ru_eq, r1_ne]
    | 6 => simp (disch := omega) only [tv, addLV, ru_ne, ru_eq, r1_ne]
    | 7 =>
      simp (disch := omega) only [tv, addLV, ru_ne, ru_eq, clip, upd1]
      by_cases h1 : j = 8 * b + a
      · rw [if_pos h1, if_pos (Or.inl h1), if_pos (by omega)]
      · by_cases h2 : j = 8 * a + b
        · rw [if_neg h1, if_pos h2, if_pos (Or.inr h2), if_pos (by omega)]
        · rw [if_neg h1, if_neg h2, if_neg (show ¬ (j = 8 * b + a ∨ j = 8 * a + b) by omega)]
    | 8 => simp (disch := omega) only [tv, addLV, ru_ne, ru_eq, r1_ne]
    | 9 => simp (disch := omega) only [tv, addLV, ru_ne, ru_eq, r1_ne]
    | 10 => simp (disch := omega) only [tv, addLV, ru_ne, ru_eq, r1_ne]
    | 11 => simp (disch := omega) only [tv, addLV, ru_ne, ru_eq, r1_ne]
    | 12 => simp (disch := omega) only [tv, addLV, ru_ne, ru_eq, r1_ne]
    | n + 13 => simp (disch := omega) only [tv, addLV, ru_ne, ru_eq, r1_ne]
  · intro z hz
    rw [ru_ne (by omega), ru_ne (by omega), ru_ne (by omega)]
theorem ct_X7_addLane : Ct mX7_addLane 0 0 0 0 (nrmS S_X7_addLane) := by
  refine ct_vm (own := RX7) (by decide +kernel) rfl ?_ ?_
  · intro as μ Q hS
    unfold S_X7_addLane at hS
    split at hS
    · exact Nat.le_of_ble_eq_true rfl
    · exact hS.elim
  · intro as μ R hS
    unfold S_X7_addLane at hS
    split at hS
    · exact body_X7_addLane hS.1 hS.2
    · exact hS.elim
def begV (p : Int) : TV := fun f => match f with
  | 0 => fun _ => p
  | 5 => clip 8 (fun _ => 12)
  | 6 => clip 8 (fun _ => 1)
  | _ => fun _ => 0
def P_X7_begin (t _ : Int) (_ : Mem) : Prop := isT t
def Q_X7_begin (t p : Int) (μ μ' : Mem) : Prop := tv μ' t = begV p ∧ Same μ μ' t (t + 9)
theorem fill_ne {a w q : Int} {μ : Mem} (h : q ≠ a) : M_J7_fill_53178 a w μ q = μ q := rs_ne h
theorem fill_eq {a w : Int} {μ : Mem} {N : Nat} (h : isArr a 0 N) : M_J7_fill_53178 a w μ a = fun j => if 0 ≤ j ∧ j < (N : Int) then w else μ a j := by
  unfold M_J7_fill_53178
  rw [rs_eq, h.2]
def S_X7_begin : S0t := fun as μ Q => match as with
  | [(2, x0), (0, x1)] => P_X7_begin x0 x1 μ ∧ ∀ (μ' : Mem) , Q_X7_begin x0 x1 μ μ'  → Q μ' none
  | _ => False
theorem mono_X7_begin : Mono S_X7_begin := by
  intro as μ Q Q' h hS
  unfold S_X7_begin at hS ⊢
  split at hS
  · exact ⟨hS.1, fun μ' q => h _ _ (hS.2 _ q)⟩
  · exact hS.elim
def iX7_begin : Inf := (kX7_begin, fTX7, pTX7, cTX7, lTX7, sTX7, [(58, 1, 2, 0, S_J7_fill_53178)])
theorem ok_X7_begin : infOK iX7_begin mX7_begin RX7 1 23 := ⟨kkX7_begin, fTX7_ok, pTX7_ok _, cTX7_ok, lTX7_ok, sTX7_ok, c_cons ⟨mJ7_fill_53178, 0, 0, ct_J7_fill_53178, mmJ7_fill_53178, stJ7_fill_53178, lkX7_58, ⟨by decide, by decide⟩, mono_J7_fill_53178⟩ (c_nil)⟩
theorem mt_X7_begin : mtOK [] RX7 1 23 := mt_nil
abbrev V_X7_begin (R : Mem → Option AV → Prop) (pc : Nat) (lc : List (Nat × AV)) (μ : Mem) : Prop := VM mX7_begin RX7 1 23 R pc lc [] μ
set_option maxRecDepth 20000 in
theorem vc_X7_begin_0 {R : Mem → Option AV → Prop} {p t : Int} {μ : Mem} (ht : isT t) (H : V_X7_begin R 5 [(0, kR t)] (updm μ t 1 p)) : V_X7_begin R 0 [(0, kR t), (1, kI p)] μ := by
  refine vm_step2 mt_X7_begin ok_X7_begin [(5, [0]), (10, [0]), (15, [0]), (20, [0]), (25, [0]), (30, [0]), (38, [0]), (46, [0]), (55, [0])] 1000 ?_
  show isC t 7 ∧ 0 = 0 ∧ True ∧ V_X7_begin R 5 [(0, kR t)] (updm μ t 1 p)
  exact ⟨isT_C ht, rfl, trivial, H⟩
set_option maxRecDepth 20000 in
theorem vc_X7_begin_5 {R : Mem → Option AV → Prop} {t : Int} {μ : Mem} (ht : isT t) (H : V_X7_begin R 10 [(0, kR t)] (updm μ t 2 0)) : V_X7_begin R 5 [(0, kR t)] μ := by
  refine vm_step2 mt_X7_begin ok_X7_begin [(5, [0]), (10, [0]), (15, [0]), (20, [0]), (25, [0]), (30, [0]), (38, [0]), (46, [0]), (55, [0])] 1000 ?_
  show isC t 7 ∧ 0 = 0 ∧ True ∧ V_X7_begin R 10 [(0, kR t)] (updm μ t 2 0)
  exact ⟨isT_C ht, rfl, trivial, H⟩
set_option maxRecDepth 20000 in
theorem vc_X7_begin_10 {R : Mem → Option AV → Prop} {t : Int} {μ : Mem} (ht : isT t) (H : V_X7_begin R 15 [(0, kR t)] (updm μ t 5 0)) : V_X7_begin R 10 [(0, kR t)] μ := by
  refine vm_step2 mt_X7_begin ok_X7_begin [(5, [0]), (10, [0]), (15, [0]), (20, [0]), (25, [0]), (30, [0]), (38, [0]), (46, [0]), (55, [0])] 1000 ?_
  show isC t 7 ∧ 0 = 0 ∧ True ∧ V_X7_begin R 15 [(0, kR t)] (updm μ t 5 0)
  exact ⟨isT_C ht, rfl, trivial, H⟩
set_option maxRecDepth 20000 in
theorem vc_X7_begin_15 {R : Mem → Option AV → Prop} {t : Int} {μ : Mem} (ht : isT t) (H : V_X7_begin R 20 [(0, kR t)] (updm μ t 6 0)) : V_X7_begin R 15 [(0, kR t)] μ := by
  refine vm_step2 mt_X7_begin ok_X7_begin [(5, [0]), (10, [0]), (15, [0]), (20, [0]), (25, [0]), (30, [0]), (38, [0]), (46, [0]), (55, [0])] 1000 ?_
  show isC t 7 ∧ 0 = 0 ∧ True ∧ V_X7_begin R 20 [(0, kR t)] (updm μ t 6 0)
  exact ⟨isT_C ht, rfl, trivial, H⟩
set_option maxRecDepth 20000 in
theorem vc_X7_begin_20 {R : Mem → Option AV → Prop} {t : Int} {μ : Mem} (ht : isT t) (H : V_X7_begin R 25 [(0, kR t)] (updm μ t 12 0)) : V_X7_begin R 20 [(0, kR t)] μ := by
  refine vm_step2 mt_X7_begin ok_X7_begin [(5, [0]), (10, [0]), (15, [0]), (20, [0]), (25, [0]), (30, [0]), (38, [0]), (46, [0]), (55, [0])] 1000 ?_
  show isC t 7 ∧ 0 = 0 ∧ True ∧ V_X7_begin R 25 [(0, kR t)] (updm μ t 12 0)
  exact ⟨isT_C ht, rfl, trivial, H⟩
set_option maxRecDepth 20000 in
theorem vc_X7_begin_25 {R : Mem → Option AV → Prop} {t : Int} {μ : Mem} (ht : isT t) (H : V_X7_begin R 30 [(0, kR t)] (updm μ t 16 0)) : V_X7_begin R 25 [(0, kR t)] μ := by
  refine vm_step2 mt_X7_begin ok_X7_begin [(5, [0]), (10, [0]), (15, [0]), (20, [0]), (25, [0]), (30, [0]), (38, [0]), (46, [0]), (55, [0])] 1000 ?_
  show isC t 7 ∧ 0 = 0 ∧ True ∧ V_X7_begin R 30 [(0, kR t)] (updm μ t 16 0)
  exact ⟨isT_C ht, rfl, trivial, H⟩
set_option maxRecDepth 20000 in
theorem vc_X7_begin_30 {R : Mem → Option AV → Prop} {t : Int} {μ : Mem} (ht : isT t) (H : P_J7_fill_53178 (t + 1) 0 μ ∧ V_X7_begin R 38 [(0, kR t)] (M_J7_fill_53178 (t + 1) 0 μ)) : V_X7_begin R 30 [(0, kR t)] μ := by
  refine vm_step2 mt_X7_begin ok_X7_begin [(5, [0]), (10, [0]), (15, [0]), (20, [0]), (25, [0]), (30, [0]), (38, [0]), (46, [0]), (55, [0])] 1000 ?_
  show isC t 7 ∧ P_J7_fill_53178 (t + 1) 0 μ ∧ V_X7_begin R 38 [(0, kR t)] (M_J7_fill_53178 (t + 1) 0 μ)
  exact ⟨isT_C ht, ⟨H.1, H.2⟩⟩
set_option maxRecDepth 20000 in
theorem vc_X7_begin_38 {R : Mem → Option AV → Prop} {t : Int} {μ : Mem} (ht : isT t) (H : P_J7_fill_53178 (t + 3) 0 μ ∧ V_X7_begin R 46 [(0, kR t)] (M_J7_fill_53178 (t + 3) 0 μ)) : V_X7_begin R 38 [(0, kR t)] μ := by
  refine vm_step2 mt_X7_begin ok_X7_begin [(5, [0]), (10, [0]), (15, [0]), (20, [0]), (25, [0]), (30, [0]), (38, [0]), (46, [0]), (55, [0])] 1000 ?_
  show isC t 7 ∧ P_J7_fill_53178 (t + 3) 0 μ ∧ V_X7_begin R 46 [(0, kR t)] (M_J7_fill_53178 (t + 3) 0 μ)
  exact ⟨isT_C ht, ⟨H.1, H.2⟩⟩
set_option maxRecDepth 20000 in
theorem vc_X7_begin_46 {R : Mem → Option AV → Prop} {t : Int} {μ : Mem} (ht : isT t) (H : P_J7_fill_53178 (t + 4) 12 μ ∧ V_X7_begin R 55 [(0, kR t)] (M_J7_fill_53178 (t + 4) 12 μ)) : V_X7_begin R 46 [(0, kR t)] μ := by
  refine vm_step2 mt_X7_begin ok_X7_begin [(5, [0]), (10, [0]), (15, [0]), (20, [0]), (25, [0]), (30, [0]), (38, [0]), (46, [0]), (55, [0])] 1000 ?_
  show isC t 7 ∧ P_J7_fill_53178 (t + 4) 12 μ ∧ V_X7_begin R 55 [(0, kR t)] (M_J7_fill_53178 (t + 4) 12 μ)
  exact ⟨isT_C ht, ⟨H.1, H.2⟩⟩
set_option maxRecDepth 20000 in
theorem vc_X7_begin_55 {R : Mem → Option AV → Prop} {t : Int} {μ : Mem} (ht : isT t) (H : P_J7_fill_53178 (t + 5) 1 μ ∧ R (M_J7_fill_53178 (t + 5) 1 μ) none) : V_X7_begin R 55 [(0, kR t)] μ := by
  refine vm_step2 mt_X7_begin ok_X7_begin [(5, [0]), (10, [0]), (15, [0]), (20, [0]), (25, [0]), (30, [0]), (38, [0]), (46, [0]), (55, [0])] 1000 ?_
  show isC t 7 ∧ P_J7_fill_53178 (t + 5) 1 μ ∧ R (M_J7_fill_53178 (t + 5) 1 μ) none
  exact ⟨isT_C ht, ⟨H.1, H.2⟩⟩
theorem body_X7_begin {t p : Int} {μ : Mem} {R : Mem → Option AV → Prop} (ht : P_X7_begin t p μ) (hR : ∀ μ' : Mem, Q_X7_begin t p μ μ' → R μ' none) : V_X7_begin R 0 [(0, kR t), (1, kI p)] μ := by
  have ht : isT t := ht
  refine vc_X7_begin_0 ht (vc_X7_begin_5 ht (vc_X7_begin_10 ht (vc_X7_begin_15 ht (vc_X7_begin_20 ht (vc_X7_begin_25 ht ?_)))))
  obtain ⟨m1, e1⟩ : ∃ x, x = updm (updm (updm (updm (updm (updm μ t 1 p) t 2 0) t 5 0) t 6 0) t 12 0) t 16 0 := ⟨_, rfl⟩
  rw [← e1]
  refine vc_X7_begin_30 ht ⟨⟨64, T_minutes ht, by omega⟩, vc_X7_begin_38 ht ⟨⟨8, T_chance ht, by omega⟩, vc_X7_begin_46 ht ⟨⟨8, T_dog ht, by omega⟩, vc_X7_begin_55 ht ⟨⟨8, T_dig ht, by omega⟩, hR _ ⟨?_, ?_⟩⟩⟩⟩⟩
  · have f1 := fill_eq (w := 0) (μ := m1) (T_minutes ht)
    have f3 := fun m => fill_eq (w := 0) (μ := m) (T_chance ht)
    have f4 := fun m => fill_eq (w := 12) (μ := m) (T_dog ht)
    have f5 := fun m => fill_eq (w := 1) (μ := m) (T_dig ht)
    have k1 : m1 t 1 = p := by rw [e1]; simp (disch := omega) only [ru_eq, r1_ne, r1_eq]
    have k2 : m1 t 2 = 0 := by rw [e1]; simp (disch := omega) only [ru_eq, r1_ne, r1_eq]
    have k5 : m1 t 5 = 0 := by rw [e1]; simp (disch := omega) only [ru_eq, r1_ne, r1_eq]
    have k6 : m1 t 6 = 0 := by rw [e1]; simp (disch := omega) only [ru_eq, r1_ne, r1_eq]
    have k12 : m1 t 12 = 0 := by rw [e1]; simp (disch := omega) only [ru_eq, r1_ne, r1_eq]
    have k16 : m1 t 16 = 0 := by rw [e1]; simp (disch := omega) only [ru_eq, r1_ne, r1_eq]
    have z : ∀ (g : Int → Int) (j : Int), clip 0 g j = 0 := fun g j => if_neg (by omega)
    have c8 : ∀ (w : Int) (g : Int → Int) (j : Int), clip 8 (fun j => if 0 ≤ j ∧ j < ((8 : Nat) : Int) then w else g j) j = clip 8 (fun _ => w) j := by
      intro w g j
      unfold clip
      by_cases hj : 0 ≤ j ∧ j < 8
      · rw [if_pos hj, if_pos hj]
        exact if_pos (by omega)
      · rw [if_neg hj, if_neg hj]
    funext f j
    match f with
    | 0 => simp (disch := omega) only [tv, begV, fill_ne, k1]
    | 1 => simp (disch := omega) only [tv, begV, fill_ne, k2]
    | 2 => simp (disch := omega) only [tv, begV, fill_ne, k5]
    | 3 => simp (disch := omega) only [tv, begV, fill_ne, k6]
    | 4 =>
      simp (disch := omega) only [tv, begV, fill_ne, f3, c8]
      unfold clip
      by_cases hj : 0 ≤ j ∧ j < 8
      · rw [if_pos hj]
      · rw [if_neg hj]
    | 5 => simp (disch := omega) only [tv, begV, fill_ne, f4, c8]
    | 6 => simp (disch := omega) only [tv, begV, fill_ne, f5, c8]
    | 7 =>
      simp (disch := omega) only [tv, begV, fill_ne, f1]
      unfold clip
      by_cases hj : 0 ≤ j ∧ j < 64
      · rw [if_pos hj]
        exact if_pos (by omega)
      · rw [if_neg hj]
    | 8 => simp (disch := omega) only [tv, begV, fill_ne, k12]
    | 9 => simp (disch := omega) only [tv, begV, fill_ne, k12, z]
    | 10 => simp (disch := omega) only [tv, begV, fill_ne, k12, z]
    | 11 =>
      simp (disch := omega) only [tv, begV, fill_ne, k12]
      rw [if_neg (by omega)]
    | 12 => simp (disch := omega) only [tv, begV, fill_ne, k16]
    | n + 13 => simp (disch := omega) only [tv, begV, fill_ne, k16, z]
  · intro z hz
    rw [fill_ne (by omega), fill_ne (by omega), fill_ne (by omega), fill_ne (by omega), e1, ru_ne (by omega), ru_ne (by omega), ru_ne (by omega), ru_ne (by omega), ru_ne (by omega), ru_ne (by omega)]
theorem ct_X7_begin : Ct mX7_begin 1 23 0 0 (nrmS S_X7_begin) := by
  refine ct_vm (own := RX7) (by decide +kernel) rfl ?_ ?_
  · intro as μ Q hS
    unfold S_X7_begin at hS
    split at hS
    · exact Nat.le_of_ble_eq_true rfl
    · exact hS.elim
  · intro as μ R hS
    unfold S_X7_begin at hS
    split at hS
    · exact body_X7_begin hS.1 hS.2
    · exact hS.elim
/-- the set of the cellars among the first n places -/
def bitsV (p : Int → Bool) (n : Int) : Int := fold (fun s a => if p a = true then s + ((2 ^ a.toNat : Nat) : Int) else s) 0 n
theorem bitsV_s {p : Int → Bool} {n : Int} (h : 0 ≤ n) : bitsV p (n + 1) = if p n = true then bitsV p n + ((2 ^ n.toNat : Nat) : Int) else bitsV p n := fold_s h
theorem bitsV_bd {p : Int → Bool} {n : Int} (hn : 0 ≤ n) : 0 ≤ bitsV p n ∧ bitsV p n < ((2 ^ n.toNat : Nat) : Int) := by
  refine fold_ind (P := fun n s => 0 ≤ s ∧ s < ((2 ^ n.toNat : Nat) : Int)) (by decide) (fun i s h0 h1 ih => ?_) hn
  have e : (i + 1).toNat = i.toNat + 1 := by omega
  rw [e, Nat.pow_succ]
  generalize 2 ^ i.toNat = k at ih ⊢
  by_cases hp : p i = true
  · simp only [hp, if_true]; omega
  · simp only [hp]; simp; omega
theorem or_pow {s k : Nat} (h : s < 2 ^ k) : s ||| 2 ^ k = s + 2 ^ k := by
  rw [Nat.or_comm, Nat.add_comm]
  have := Nat.two_pow_add_eq_or_of_lt h 1
  simpa using this.symm
theorem bitsV_or {p : Int → Bool} {n : Int} (h0 : 0 ≤ n) (h1 : n < 30) : bor (bitsV p n) (bshl 1 n) = bitsV p n + ((2 ^ n.toNat : Nat) : Int) := by
  have hb := bitsV_bd (p := p) h0
  have hl : 2 ^ n.toNat ≤ 2 ^ 29 := Nat.pow_le_pow_right (by omega) (by omega)
  have hl2 : (2 : Nat) ^ 29 = 536870912 := rfl
  rw [b_shl h0 (by omega), b_or hb.1 (by omega) (by omega) (by omega)]
  have e : (((2 ^ n.toNat : Nat) : Int)).toNat = 2 ^ n.toNat := rfl
  rw [e, or_pow (by omega)]
  omega
theorem bitsV_has {p : Int → Bool} {n : Int} (hn : 0 ≤ n) : ∀ j : Int, 0 ≤ j → hasB (bitsV p n) j = (decide (j < n) && p j) := by
  refine fold_ind (P := fun n s => (0 ≤ s ∧ s < ((2 ^ n.toNat : Nat) : Int)) ∧ ∀ j : Int, 0 ≤ j → hasB s j = (decide (j < n) && p j)) ⟨by decide, fun j hj => ?_⟩ (fun i s h0 h1 ih => ?_) hn |>.2
  · unfold hasB
    rw [decide_eq_false (by omega)]
    simp
  · obtain ⟨hb, ih⟩ := ih
    have e : (i + 1).toNat = i.toNat + 1 := by omega
    refine ⟨?_, fun j hj => ?_⟩
    · rw [e, Nat.pow_succ]
      generalize 2 ^ i.toNat = k at hb ⊢
      by_cases hp : p i = true
      · simp only [hp, if_true]; omega
      · simp only [hp]; simp; omega
    · have ihj := ih j hj
      by_cases hp : p i = true
      · simp only [hp, if_true]
        unfold hasB at ihj ⊢
        have es : (s + ((2 ^ i.toNat : Nat) : Int)).toNat = s.toNat ||| 2 ^ i.toNat := by
          rw [or_pow (by omega)]; omega
        rw [es, Nat.testBit_or, ihj, Nat.testBit_two_pow]
        by_cases hji : j = i
        · subst hji
          simp [hp]
          omega
        · have h2 : ¬ i.toNat = j.toNat := by omega
          have h3 : decide (j < i + 1) = decide (j < i) := by
            by_cases hlt : j < i
            · rw [decide_eq_true hlt, decide_eq_true (by omega)]
            · rw [decide_eq_false hlt, decide_eq_false (by omega)]
          simp [h2, h3]
      · simp only [hp]
        simp only [Bool.false_eq_true, if_false]
        rw [ihj]
        by_cases hji : j = i
        · subst hji
          simp [hp]
        · have h3 : decide (j < i + 1) = decide (j < i) := by
            by_cases hlt : j < i
            · rw [decide_eq_true hlt, decide_eq_true (by omega)]
            · rw [decide_eq_false hlt, decide_eq_false (by omega)]
          rw [h3]
def cellV (v : TV) : Int := bitsV (fun a => decide (0 < v 4 a)) (v 0 0)
def P_X7_countCellars (t : Int) (μ : Mem) : Prop := TB μ t
def M_X7_countCellars (t : Int) (μ : Mem) : Mem := updm (updm μ t 3 (sm (tv μ t 4) (tv μ t 0 0))) t 4 (cellV (tv μ t))
theorem updm_c {μ : Mem} {o j k x z : Int} (h : j ≠ k) : updm (updm μ o j x) o k z = updm (updm μ o k z) o j x := by
  funext q i
  unfold updm upd1
  by_cases hq : q = o
  · subst hq
    by_cases hi : i = j
    · subst hi
      have : ¬ i = k := h
      simp [this]
    · by_cases hk : i = k
      · subst hk
        simp [hi]
      · simp [hi, hk]
  · simp [hq]
def S_X7_countCellars : S0t := fun as μ Q => match as with
  | [(2, x0)] => P_X7_countCellars x0 μ ∧ Q (M_X7_countCellars x0 μ) none
  | _ => False
theorem mono_X7_countCellars : Mono S_X7_countCellars := by
  intro as μ Q Q' h hS
  unfold S_X7_countCellars at hS ⊢
  split at hS
  · exact ⟨hS.1, h _ _ hS.2⟩
  · exact hS.elim
def iX7_countCellars : Inf := (kX7_countCellars, fTX7, pTX7, cTX7, lTX7, sTX7, [])
theorem ok_X7_countCellars : infOK iX7_countCellars mX7_countCellars RX7 0 0 := ⟨kkX7_countCellars, fTX7_ok, pTX7_ok _, cTX7_ok, lTX7_ok, sTX7_ok, c_nil⟩
theorem mt_X7_countCellars : mtOK [] RX7 0 0 := mt_nil
abbrev V_X7_countCellars (R : Mem → Option AV → Prop) (pc : Nat) (lc : List (Nat × AV)) (μ : Mem) : Prop := VM mX7_countCellars RX7 0 0 R pc lc [] μ
set_option maxRecDepth 20000 in
theorem vc_X7_countCellars_0 {R : Mem → Option AV → Prop} {t : Int} {μ : Mem} (ht : isT t) (H : V_X7_countCellars R 12 [(0, kR t), (1, kI 0)] (updm (updm μ t 3 0) t 4 0)) : V_X7_countCellars R 0 [(0, kR t)] μ := by
  refine vm_step2 mt_X7_countCellars ok_X7_countCellars [(12, [0, 1])] 1000 ?_
  show isC t 7 ∧ 0 = 0 ∧ True ∧ isC t 7 ∧ 0 = 0 ∧ True ∧ V_X7_countCellars R 12 [(0, kR t), (1, kI 0)] (updm (updm μ t 3 0) t 4 0)
  exact ⟨isT_C ht, rfl, trivial, ⟨isT_C ht, rfl, trivial, H⟩⟩
set_option maxRecDepth 20000 in
theorem vc_X7_countCellars_12 {R : Mem → Option AV → Prop} {a t : Int} {μ : Mem} (ht : isT t) (H : r32 a ∧ r32 (μ t 1) ∧ (((μ t 1) ≤ a) → R μ none) ∧ (¬ ((μ t 1) ≤ a) → (0 ≤ a ∧ a < 8) ∧ (0 ≤ a ∧ a < 8) ∧ r32 ((updm μ t 3 ((μ t 3) + (μ (t + 3) a))) (t + 3) a) ∧ ((((updm μ t 3 ((μ t 3) + (μ (t + 3) a))) (t + 3) a) ≤ 0) → V_X7_countCellars R 12 [(0, kR t), (1, kI (a + 1))] (updm μ t 3 ((μ t 3) + (μ (t + 3) a)))) ∧ (¬ (((updm μ t 3 ((μ t 3) + (μ (t + 3) a))) (t + 3) a) ≤ 0) → V_X7_countCellars R 12 [(0, kR t), (1, kI (a + 1))] (updm (updm μ t 3 ((μ t 3) + (μ (t + 3) a))) t 4 (bor ((updm μ t 3 ((μ t 3) + (μ (t + 3) a))) t 4) (bshl 1 a)))))) : V_X7_countCellars R 12 [(0, kR t), (1, kI a)] μ := by
  refine vm_step2 mt_X7_countCellars ok_X7_countCellars [(12, [0, 1])] 1000 ?_
  show isC t 7 ∧ (r32 a ∧ r32 (μ t 1)) ∧ (((μ t 1) ≤ a) → R μ none) ∧ (¬ ((μ t 1) ≤ a) → isC t 7 ∧ isC t 7 ∧ inA (t + 3) 0 a ∧ isC t 7 ∧ 0 = 0 ∧ True ∧ isC t 7 ∧ inA (t + 3) 0 a ∧ r32 ((updm μ t 3 ((μ t 3) + (μ (t + 3) a))) (t + 3) a) ∧ ((((updm μ t 3 ((μ t 3) + (μ (t + 3) a))) (t + 3) a) ≤ 0) → V_X7_countCellars R 12 [(0, kR t), (1, kI (a + 1))] (updm μ t 3 ((μ t 3) + (μ (t + 3) a)))) ∧ (¬ (((updm μ t 3 ((μ t 3) + (μ (t + 3) a))) (t + 3) a) ≤ 0) → isC t 7 ∧ isC t 7 ∧ 0 = 0 ∧ True ∧ V_X7_countCellars R 12 [(0, kR t), (1, kI (a + 1))] (updm (updm μ t 3 ((μ t 3) + (μ (t + 3) a))) t 4 (bor ((updm μ t 3 ((μ t 3) + (μ (t + 3) a))) t 4) (bshl 1 a)))))
  exact ⟨isT_C ht, ⟨⟨H.1, H.2.1⟩, fun hc2 => (H.2.2.1 hc2), fun hc2 => ⟨isT_C ht, ⟨isT_C ht, ⟨isArr.in (T_chance ht) (H.2.2.2 hc2).1.1 (H.2.2.2 hc2).1.2, ⟨isT_C ht, rfl, trivial, ⟨isT_C ht, ⟨isArr.in (T_chance ht) (H.2.2.2 hc2).2.1.1 (H.2.2.2 hc2).2.1.2, ⟨(H.2.2.2 hc2).2.2.1, fun hc1 => ((H.2.2.2 hc2).2.2.2.1 hc1), fun hc1 => ⟨isT_C ht, ⟨isT_C ht, rfl, trivial, ((H.2.2.2 hc2).2.2.2.2 hc1)⟩⟩⟩⟩⟩⟩⟩⟩⟩⟩⟩
theorem body_X7_countCellars {t : Int} {μ : Mem} {R : Mem → Option AV → Prop} (h : P_X7_countCellars t μ) (hR : R (M_X7_countCellars t μ) none) : V_X7_countCellars R 0 [(0, kR t)] μ := by
  obtain ⟨ht, ok⟩ := h
  have hp : 2 ≤ μ t 1 ∧ μ t 1 ≤ 8 := ok.1
  refine vc_X7_countCellars_0 ht ?_
  refine up_ind (P := fun a => V_X7_countCellars R 12 [(0, kR t), (1, kI a)] (updm (updm μ t 3 (sm (tv μ t 4) a)) t 4 (bitsV (fun a => decide (0 < tv μ t 4 a)) a))) (lo := 0) (hi := μ t 1) ?_ ?_ 0 (by omega) (by omega)
  · intro a a0 a1 ih
    have hc := (ok.2.2.2.1 a a0 (by omega)).1
    rw [sm_s a0, bitsV_s a0] at ih
    have e1 : updm (updm μ t 3 (sm (tv μ t 4) a)) t 4 (bitsV (fun a => decide (0 < tv μ t 4 a)) a) t 1 = μ t 1 := by
      rw [ru_eq, r1_ne (by omega), ru_eq, r1_ne (by omega)]
    have e3 : updm (updm μ t 3 (sm (tv μ t 4) a)) t 4 (bitsV (fun a => decide (0 < tv μ t 4 a)) a) t 3 = sm (tv μ t 4) a := by
      rw [ru_eq, r1_ne (by omega), ru_eq, r1_eq]
    have e4' : updm (updm μ t 3 (sm (tv μ t 4) a)) t 4 (bitsV (fun a => decide (0 < tv μ t 4 a)) a) t 4 = bitsV (fun a => decide (0 < tv μ t 4 a)) a := by
      rw [ru_eq, r1_eq]
    have ec : updm (updm μ t 3 (sm (tv μ t 4) a)) t 4 (bitsV (fun a => decide (0 < tv μ t 4 a)) a) (t + 3) a = tv μ t 4 a := by
      rw [ru_ne (by omega), ru_ne (by omega), e4 μ t a0 (by omega)]
    have em : ∀ x : Int, updm (updm (updm μ t 3 (sm (tv μ t 4) a)) t 4 (bitsV (fun a => decide (0 < tv μ t 4 a)) a)) t 3 x = updm (updm μ t 3 x) t 4 (bitsV (fun a => decide (0 < tv μ t 4 a)) a) := by
      intro x
      rw [updm_c (show (4 : Int) ≠ 3 by omega), updm_2]
    refine vc_X7_countCellars_12 ht ?_
    rw [e1, e3, ec, em]
    have ec2 : updm (updm μ t 3 (sm (tv μ t 4) a + tv μ t 4 a)) t 4 (bitsV (fun a => decide (0 < tv μ t 4 a)) a) (t + 3) a = tv μ t 4 a := by
      rw [ru_ne (by omega), ru_ne (by omega), e4 μ t a0 (by omega)]
    have e42 : updm (updm μ t 3 (sm (tv μ t 4) a + tv μ t 4 a)) t 4 (bitsV (fun a => decide (0 < tv μ t 4 a)) a) t 4 = bitsV (fun a => decide (0 < tv μ t 4 a)) a := by
      rw [ru_eq, r1_eq]
    rw [ec2, e42, updm_2, bitsV_or a0 (by omega)]
    refine ⟨rr (by omega), rr (by omega), fun c => absurd c (by omega), fun _ => ⟨⟨a0, by omega⟩, ⟨a0, by omega⟩, rr (by omega), fun c => ?_, fun c => ?_⟩⟩
    · rw [if_neg (by simp; omega)] at ih
      exact ih
    · rw [if_pos (by simp; omega)] at ih
      exact ih
  · refine vc_X7_countCellars_12 ht ?_
    have e1 : updm (updm μ t 3 (sm (tv μ t 4) (μ t 1))) t 4 (bitsV (fun a => decide (0 < tv μ t 4 a)) (μ t 1)) t 1 = μ t 1 := by
      rw [ru_eq, r1_ne (by omega), ru_eq, r1_ne (by omega)]
    rw [e1]
    exact ⟨rr (by omega), rr (by omega), fun _ => hR, fun c => absurd (Int.le_refl _) c⟩
theorem ct_X7_countCellars : Ct mX7_countCellars 0 0 0 0 (nrmS S_X7_countCellars) := by
  refine ct_vm (own := RX7) (by decide +kernel) rfl ?_ ?_
  · intro as μ Q hS
    unfold S_X7_countCellars at hS
    split at hS
    · exact Nat.le_of_ble_eq_true rfl
    · exact hS.elim
  · intro as μ R hS
    unfold S_X7_countCellars at hS
    split at hS
    · exact body_X7_countCellars hS.1 hS.2
    · exact hS.elim
theorem fwS_diag {M : Int → Int → Int} {m : Int} (h0 : ∀ c, M c c = 0) (hn : ∀ a b, 0 ≤ M a b) : (∀ c, fwS M m c c = 0) ∧ (∀ a b, 0 ≤ fwS M m a b ∧ fwS M m a b ≤ M a b) := by
  refine ⟨fun c => ?_, fun a b => ?_⟩
  · have h1 := hn c m
    have h2 := hn m c
    have h3 := h0 c
    unfold fwS
    omega
  · have h1 := hn a m
    have h2 := hn m b
    have h3 := hn a b
    unfold fwS
    omega
theorem fw_diag {M : Int → Int → Int} (h0 : ∀ c, M c c = 0) (hn : ∀ a b, 0 ≤ M a b) {n : Int} (hn0 : 0 ≤ n) : (∀ c, fw M n c c = 0) ∧ (∀ a b, 0 ≤ fw M n a b ∧ fw M n a b ≤ M a b) :=
  fold_ind (P := fun _ (X : Int → Int → Int) => (∀ c, X c c = 0) ∧ (∀ a b, 0 ≤ X a b ∧ X a b ≤ M a b)) ⟨h0, fun a b => ⟨hn a b, Int.le_refl _⟩⟩ (fun i X _ _ ih => by
    have := fwS_diag (m := i) ih.1 (fun a b => (ih.2 a b).1)
    exact ⟨this.1, fun a b => ⟨(this.2 a b).1, Int.le_trans (this.2 a b).2 (ih.2 a b).2⟩⟩) hn0
/-- a row of a stage is under way: which places are done -/
def done (a b a' b' : Int) : Prop := a' < a ∨ (a' = a ∧ b' < b)
/-- the matrix in memory while a stage is under way -/
def Stage (μ1 : Mem) (o pl : Int) (M : Int → Int → Int) (m a b : Int) : Prop := ∀ a' b' : Int, 0 ≤ a' → a' < pl → 0 ≤ b' → b' < pl → (done a b a' b' → μ1 o (8 * a' + b') = fwS M m a' b') ∧ (¬ done a b a' b' → μ1 o (8 * a' + b') = M a' b')
theorem Stage.row {μ1 : Mem} {o pl m a b : Int} {M : Int → Int → Int} (h : Stage μ1 o pl M m a b) (h0 : ∀ c, M c c = 0) (hn : ∀ a b, 0 ≤ M a b) (m0 : 0 ≤ m) (m1 : m < pl) : (∀ c, 0 ≤ c → c < pl → μ1 o (8 * c + m) = M c m) ∧ (∀ c, 0 ≤ c → c < pl → μ1 o (8 * m + c) = M m c) := by
  refine ⟨fun c c0 c1 => ?_, fun c c0 c1 => ?_⟩
  · by_cases hd : done a b c m
    · rw [(h c m c0 c1 m0 m1).1 hd]
      have := h0 m
      have := hn c m
      unfold fwS
      omega
    · exact (h c m c0 c1 m0 m1).2 hd
  · by_cases hd : done a b m c
    · rw [(h m c m0 m1 c0 c1).1 hd]
      have := h0 m
      have := hn m c
      unfold fwS
      omega
    · exact (h m c m0 m1 c0 c1).2 hd
theorem idx_inj {a b c d : Int} (hb : 0 ≤ b ∧ b < 8) (hd : 0 ≤ d ∧ d < 8) (h : 8 * a + b = 8 * c + d) : a = c ∧ b = d := by omega
/-- a place is done: it keeps what it has, or takes the way through m -/
theorem Stage.keep {μ1 : Mem} {o pl m a b : Int} {M : Int → Int → Int} (h : Stage μ1 o pl M m a b) (ha : 0 ≤ a ∧ a < pl) (hb : 0 ≤ b ∧ b < pl) (hle : M a b ≤ M a m + M m b) : Stage μ1 o pl M m a (b + 1) := by
  intro a' b' a0 a1 b0 b1
  obtain ⟨h1, h2⟩ := h a' b' a0 a1 b0 b1
  by_cases he : a' = a ∧ b' = b
  · obtain ⟨rfl, rfl⟩ := he
    refine ⟨fun _ => ?_, fun q => absurd (Or.inr ⟨rfl, by omega⟩) q⟩
    rw [h2 (by unfold done; omega)]
    unfold fwS
    omega
  · exact ⟨fun q => h1 (by unfold done at q ⊢; omega), fun q => h2 (by unfold done at q ⊢; omega)⟩
theorem Stage.put {μ1 : Mem} {o pl m a b : Int} {M : Int → Int → Int} (h : Stage μ1 o pl M m a b) (hp : pl ≤ 8) (ha : 0 ≤ a ∧ a < pl) (hb : 0 ≤ b ∧ b < pl) (hlt : M a m + M m b < M a b) : Stage (updm μ1 o (8 * a + b) (M a m + M m b)) o pl M m a (b + 1) := by
  intro a' b' a0 a1 b0 b1
  obtain ⟨h1, h2⟩ := h a' b' a0 a1 b0 b1
  rw [ru_eq]
  by_cases he : a' = a ∧ b' = b
  · obtain ⟨rfl, rfl⟩ := he
    refine ⟨fun _ => ?_, fun q => absurd (Or.inr ⟨rfl, by omega⟩) q⟩
    rw [r1_eq]
    unfold fwS
    omega
  · rw [r1_ne (fun q => he (idx_inj ⟨b0, by omega⟩ ⟨hb.1, by omega⟩ q))]
    exact ⟨fun q => h1 (by unfold done at q ⊢; omega), fun q => h2 (by unfold done at q ⊢; omega)⟩
theorem Stage.next {μ1 : Mem} {o pl m a : Int} {M : Int → Int → Int} (h : Stage μ1 o pl M m a pl) : Stage μ1 o pl M m (a + 1) 0 := by
  intro a' b' a0 a1 b0 b1
  obtain ⟨h1, h2⟩ := h a' b' a0 a1 b0 b1
  exact ⟨fun q => h1 (by unfold done at q ⊢; omega), fun q => h2 (by unfold done at q ⊢; omega)⟩
def Holds2 (μ1 : Mem) (o pl : Int) (M : Int → Int → Int) : Prop := ∀ a b : Int, 0 ≤ a → a < pl → 0 ≤ b → b < pl → μ1 o (8 * a + b) = M a b
theorem Stage.start {μ1 : Mem} {o pl m : Int} {M : Int → Int → Int} (h : Holds2 μ1 o pl M) : Stage μ1 o pl M m 0 0 := fun a' b' a0 a1 b0 b1 => ⟨fun q => by unfold done at q; omega, fun _ => h a' b' a0 a1 b0 b1⟩
theorem Stage.fin {μ1 : Mem} {o pl m : Int} {M : Int → Int → Int} (h : Stage μ1 o pl M m pl 0) : Holds2 μ1 o pl (fwS M m) := fun a' b' a0 a1 b0 b1 => (h a' b' a0 a1 b0 b1).1 (by unfold done; omega)
def P_X7_findWays (t : Int) (μ : Mem) : Prop := TB μ t
def Q_X7_findWays (t : Int) (μ μ' : Mem) : Prop := Holds2 μ' (t + 2) (tv μ t 0 0) (wayV (tv μ t)) ∧ ∀ z : Int, z ≠ t + 2 → μ' z = μ z
theorem fwI_ok {v : TV} (ok : TVok v) {inf : Int} (hi : 100 ≤ inf) : ∀ a b : Int, 0 ≤ a → a < 8 → 0 ≤ b → b < 8 → 0 ≤ fwI inf (v 7) a b ∧ fwI inf (v 7) a b ≤ inf := by
  intro a b a0 a1 b0 b1
  have h := ok.2.2.2.2.2.1 (8 * a + b) (by omega) (by omega)
  unfold fwI
  by_cases h1 : a = b
  · rw [if_pos h1]; omega
  · rw [if_neg h1]
    by_cases h2 : v 7 (8 * a + b) = 0
    · rw [if_pos h2]; omega
    · rw [if_neg h2]; omega
theorem tv7_nn {μ : Mem} {t : Int} (ok : TVok (tv μ t)) (j : Int) : 0 ≤ tv μ t 7 j ∧ tv μ t 7 j ≤ 20 := by
  by_cases h : 0 ≤ j ∧ j < 64
  · exact ok.2.2.2.2.2.1 j h.1 h.2
  · have : tv μ t 7 j = 0 := if_neg h
    omega
theorem fwI_all {μ : Mem} {t : Int} (ok : TVok (tv μ t)) {inf : Int} (hi : 100 ≤ inf) : (∀ c, fwI inf (tv μ t 7) c c = 0) ∧ ∀ a b : Int, 0 ≤ fwI inf (tv μ t 7) a b ∧ fwI inf (tv μ t 7) a b ≤ inf := by
  refine ⟨fun c => if_pos rfl, fun a b => ?_⟩
  have h := tv7_nn ok (8 * a + b)
  unfold fwI
  by_cases h1 : a = b
  · rw [if_pos h1]; omega
  · rw [if_neg h1]
    by_cases h2 : tv μ t 7 (8 * a + b) = 0
    · rw [if_pos h2]; omega
    · rw [if_neg h2]; omega
def S_X7_findWays : S0t := fun as μ Q => match as with
  | [(2, x0)] => P_X7_findWays x0 μ ∧ ∀ (μ' : Mem) , Q_X7_findWays x0 μ μ'  → Q μ' none
  | _ => False
theorem mono_X7_findWays : Mono S_X7_findWays := by
  intro as μ Q Q' h hS
  unfold S_X7_findWays at hS ⊢
  split at hS
  · exact ⟨hS.1, fun μ' q => h _ _ (hS.2 _ q)⟩
  · exact hS.elim
def iX7_findWays : Inf := (kX7_findWays, fTX7, pTX7, cTX7, lTX7, sTX7, [])
theorem ok_X7_findWays : infOK iX7_findWays mX7_findWays RX7 0 0 := ⟨kkX7_findWays, fTX7_ok, pTX7_ok _, cTX7_ok, lTX7_ok, sTX7_ok, c_nil⟩
theorem mt_X7_findWays : mtOK [] RX7 0 0 := mt_nil
abbrev V_X7_findWays (R : Mem → Option AV → Prop) (pc : Nat) (lc : List (Nat × AV)) (μ : Mem) : Prop := VM mX7_findWays RX7 0 0 R pc lc [] μ
set_option maxRecDepth 20000 in
theorem vc_X7_findWays_0 {R : Mem → Option AV → Prop} {t : Int} {μ : Mem} (ht : isT t) (H : V_X7_findWays R 2 [(0, kR t), (1, kI 0)] μ) : V_X7_findWays R 0 [(0, kR t)] μ := by
  refine vm_step2 mt_X7_findWays ok_X7_findWays [(2, [0, 1]), (42, [0, 1]), (68, [0, 1]), (78, [0, 1, 2]), (88, [0, 1, 2, 3])] 1000 ?_
  show V_X7_findWays R 2 [(0, kR t), (1, kI 0)] μ
  exact H
set_option maxRecDepth 20000 in
theorem vc_X7_findWays_2 {R : Mem → Option AV → Prop} {i t : Int} {μ : Mem} (ht : isT t) (H : r32 i ∧ (((64 : Int) ≤ i) → V_X7_findWays R 42 [(0, kR t), (1, kI 0)] μ) ∧ (¬ ((64 : Int) ≤ i) → (0 ≤ i ∧ i < 64) ∧ r32 (μ (t + 1) i) ∧ ((¬ (μ (t + 1) i) = 0) → (0 ≤ i ∧ i < 64) ∧ (0 ≤ i ∧ i < 64) ∧ V_X7_findWays R 2 [(0, kR t), (1, kI (i + 1))] (updm μ (t + 2) i (μ (t + 1) i))) ∧ (¬ (¬ (μ (t + 1) i) = 0) → (0 ≤ i ∧ i < 64) ∧ V_X7_findWays R 2 [(0, kR t), (1, kI (i + 1))] (updm μ (t + 2) i 1000000)))) : V_X7_findWays R 2 [(0, kR t), (1, kI i)] μ := by
  refine vm_step2 mt_X7_findWays ok_X7_findWays [(2, [0, 1]), (42, [0, 1]), (68, [0, 1]), (78, [0, 1, 2]), (88, [0, 1, 2, 3])] 1000 ?_
  show (r32 i ∧ r32 (64 : Int)) ∧ (((64 : Int) ≤ i) → V_X7_findWays R 42 [(0, kR t), (1, kI 0)] μ) ∧ (¬ ((64 : Int) ≤ i) → isC t 7 ∧ isC t 7 ∧ inA (t + 1) 0 i ∧ r32 (μ (t + 1) i) ∧ ((¬ (μ (t + 1) i) = 0) → isC t 7 ∧ inA (t + 1) 0 i ∧ inA (t + 2) 0 i ∧ V_X7_findWays R 2 [(0, kR t), (1, kI (i + 1))] (updm μ (t + 2) i (μ (t + 1) i))) ∧ (¬ (¬ (μ (t + 1) i) = 0) → inA (t + 2) 0 i ∧ V_X7_findWays R 2 [(0, kR t), (1, kI (i + 1))] (updm μ (t + 2) i 1000000)))
  exact ⟨⟨H.1, by unfold r32; omega⟩, fun hc2 => (H.2.1 hc2), fun hc2 => ⟨isT_C ht, ⟨isT_C ht, ⟨isArr.in (T_minutes ht) (H.2.2 hc2).1.1 (H.2.2 hc2).1.2, ⟨(H.2.2 hc2).2.1, fun hc1 => ⟨isT_C ht, ⟨isArr.in (T_minutes ht) ((H.2.2 hc2).2.2.1 hc1).1.1 ((H.2.2 hc2).2.2.1 hc1).1.2, ⟨isArr.in (T_ways ht) ((H.2.2 hc2).2.2.1 hc1).2.1.1 ((H.2.2 hc2).2.2.1 hc1).2.1.2, ((H.2.2 hc2).2.2.1 hc1).2.2⟩⟩⟩, fun hc1 => ⟨isArr.in (T_ways ht) ((H.2.2 hc2).2.2.2 hc1).1.1 ((H.2.2 hc2).2.2.2 hc1).1.2, ((H.2.2 hc2).2.2.2 hc1).2⟩⟩⟩⟩⟩⟩
set_option maxRecDepth 20000 in
theorem vc_X7_findWays_42 {R : Mem → Option AV → Prop} {i t : Int} {μ : Mem} (ht : isT t) (H : r32 i ∧ (((8 : Int) ≤ i) → V_X7_findWays R 68 [(0, kR t), (1, kI 0)] μ) ∧ (¬ ((8 : Int) ≤ i) → (0 ≤ ((i * 8) + i) ∧ ((i * 8) + i) < 64) ∧ V_X7_findWays R 42 [(0, kR t), (1, kI (i + 1))] (updm μ (t + 2) ((i * 8) + i) 0))) : V_X7_findWays R 42 [(0, kR t), (1, kI i)] μ := by
  refine vm_step2 mt_X7_findWays ok_X7_findWays [(2, [0, 1]), (42, [0, 1]), (68, [0, 1]), (78, [0, 1, 2]), (88, [0, 1, 2, 3])] 1000 ?_
  show (r32 i ∧ r32 (8 : Int)) ∧ (((8 : Int) ≤ i) → V_X7_findWays R 68 [(0, kR t), (1, kI 0)] μ) ∧ (¬ ((8 : Int) ≤ i) → isC t 7 ∧ inA (t + 2) 0 ((i * 8) + i) ∧ V_X7_findWays R 42 [(0, kR t), (1, kI (i + 1))] (updm μ (t + 2) ((i * 8) + i) 0))
  exact ⟨⟨H.1, by unfold r32; omega⟩, fun hc3 => (H.2.1 hc3), fun hc3 => ⟨isT_C ht, ⟨isArr.in (T_ways ht) (H.2.2 hc3).1.1 (H.2.2 hc3).1.2, (H.2.2 hc3).2⟩⟩⟩
set_option maxRecDepth 20000 in
theorem vc_X7_findWays_68 {R : Mem → Option AV → Prop} {i t : Int} {μ : Mem} (ht : isT t) (H : r32 i ∧ r32 (μ t 1) ∧ (((μ t 1) ≤ i) → R μ none) ∧ (¬ ((μ t 1) ≤ i) → V_X7_findWays R 78 [(0, kR t), (1, kI i), (2, kI 0)] μ)) : V_X7_findWays R 68 [(0, kR t), (1, kI i)] μ := by
  refine vm_step2 mt_X7_findWays ok_X7_findWays [(2, [0, 1]), (42, [0, 1]), (68, [0, 1]), (78, [0, 1, 2]), (88, [0, 1, 2, 3])] 1000 ?_
  show isC t 7 ∧ (r32 i ∧ r32 (μ t 1)) ∧ (((μ t 1) ≤ i) → R μ none) ∧ (¬ ((μ t 1) ≤ i) → V_X7_findWays R 78 [(0, kR t), (1, kI i), (2, kI 0)] μ)
  exact ⟨isT_C ht, ⟨⟨H.1, H.2.1⟩, fun hc4 => (H.2.2.1 hc4), fun hc4 => (H.2.2.2 hc4)⟩⟩
set_option maxRecDepth 20000 in
theorem vc_X7_findWays_78 {R : Mem → Option AV → Prop} {i a t : Int} {μ : Mem} (ht : isT t) (H : r32 a ∧ r32 (μ t 1) ∧ (((μ t 1) ≤ a) → V_X7_findWays R 68 [(0, kR t), (1, kI (i + 1))] μ) ∧ (¬ ((μ t 1) ≤ a) → V_X7_findWays R 88 [(0, kR t), (1, kI i), (2, kI a), (3, kI 0)] μ)) : V_X7_findWays R 78 [(0, kR t), (1, kI i), (2, kI a)] μ := by
  refine vm_step2 mt_X7_findWays ok_X7_findWays [(2, [0, 1]), (42, [0, 1]), (68, [0, 1]), (78, [0, 1, 2]), (88, [0, 1, 2, 3])] 1000 ?_
  show isC t 7 ∧ (r32 a ∧ r32 (μ t 1)) ∧ (((μ t 1) ≤ a) → V_X7_findWays R 68 [(0, kR t), (1, kI (i + 1))] μ) ∧ (¬ ((μ t 1) ≤ a) → V_X7_findWays R 88 [(0, kR t), (1, kI i), (2, kI a), (3, kI 0)] μ)
  exact ⟨isT_C ht, ⟨⟨H.1, H.2.1⟩, fun hc5 => (H.2.2.1 hc5), fun hc5 => (H.2.2.2 hc5)⟩⟩
set_option maxRecDepth 20000 in
theorem vc_X7_findWays_88 {R : Mem → Option AV → Prop} {i a b t : Int} {μ : Mem} (ht : isT t) (H : r32 b ∧ r32 (μ t 1) ∧ (((μ t 1) ≤ b) → V_X7_findWays R 78 [(0, kR t), (1, kI i), (2, kI (a + 1))] μ) ∧ (¬ ((μ t 1) ≤ b) → (0 ≤ ((a * 8) + i) ∧ ((a * 8) + i) < 64) ∧ (0 ≤ ((i * 8) + b) ∧ ((i * 8) + b) < 64) ∧ (0 ≤ ((a * 8) + b) ∧ ((a * 8) + b) < 64) ∧ r32 ((μ (t + 2) ((a * 8) + i)) + (μ (t + 2) ((i * 8) + b))) ∧ r32 (μ (t + 2) ((a * 8) + b)) ∧ (((μ (t + 2) ((a * 8) + b)) ≤ ((μ (t + 2) ((a * 8) + i)) + (μ (t + 2) ((i * 8) + b)))) → V_X7_findWays R 88 [(0, kR t), (1, kI i), (2, kI a), (3, kI (b + 1))] μ) ∧ (¬ ((μ (t + 2) ((a * 8) + b)) ≤ ((μ (t + 2) ((a * 8) + i)) + (μ (t + 2) ((i * 8) + b)))) → (0 ≤ ((a * 8) + b) ∧ ((a * 8) + b) < 64) ∧ V_X7_findWays R 88 [(0, kR t), (1, kI i), (2, kI a), (3, kI (b + 1))] (updm μ (t + 2) ((a * 8) + b) ((μ (t + 2) ((a * 8) + i)) + (μ (t + 2) ((i * 8) + b))))))) : V_X7_findWays R 88 [(0, kR t), (1, kI i), (2, kI a), (3, kI b)] μ := by
  refine vm_step2 mt_X7_findWays ok_X7_findWays [(2, [0, 1]), (42, [0, 1]), (68, [0, 1]), (78, [0, 1, 2]), (88, [0, 1, 2, 3])] 1000 ?_
  show isC t 7 ∧ (r32 b ∧ r32 (μ t 1)) ∧ (((μ t 1) ≤ b) → V_X7_findWays R 78 [(0, kR t), (1, kI i), (2, kI (a + 1))] μ) ∧ (¬ ((μ t 1) ≤ b) → isC t 7 ∧ inA (t + 2) 0 ((a * 8) + i) ∧ isC t 7 ∧ inA (t + 2) 0 ((i * 8) + b) ∧ isC t 7 ∧ inA (t + 2) 0 ((a * 8) + b) ∧ (r32 ((μ (t + 2) ((a * 8) + i)) + (μ (t + 2) ((i * 8) + b))) ∧ r32 (μ (t + 2) ((a * 8) + b))) ∧ (((μ (t + 2) ((a * 8) + b)) ≤ ((μ (t + 2) ((a * 8) + i)) + (μ (t + 2) ((i * 8) + b)))) → V_X7_findWays R 88 [(0, kR t), (1, kI i), (2, kI a), (3, kI (b + 1))] μ) ∧ (¬ ((μ (t + 2) ((a * 8) + b)) ≤ ((μ (t + 2) ((a * 8) + i)) + (μ (t + 2) ((i * 8) + b)))) → isC t 7 ∧ inA (t + 2) 0 ((a * 8) + b) ∧ V_X7_findWays R 88 [(0, kR t), (1, kI i), (2, kI a), (3, kI (b + 1))] (updm μ (t + 2) ((a * 8) + b) ((μ (t + 2) ((a * 8) + i)) + (μ (t + 2) ((i * 8) + b))))))
  exact ⟨isT_C ht, ⟨⟨H.1, H.2.1⟩, fun hc7 => (H.2.2.1 hc7), fun hc7 => ⟨isT_C ht, ⟨isArr.in (T_ways ht) (H.2.2.2 hc7).1.1 (H.2.2.2 hc7).1.2, ⟨isT_C ht, ⟨isArr.in (T_ways ht) (H.2.2.2 hc7).2.1.1 (H.2.2.2 hc7).2.1.2, ⟨isT_C ht, ⟨isArr.in (T_ways ht) (H.2.2.2 hc7).2.2.1.1 (H.2.2.2 hc7).2.2.1.2, ⟨⟨(H.2.2.2 hc7).2.2.2.1, (H.2.2.2 hc7).2.2.2.2.1⟩, fun hc6 => ((H.2.2.2 hc7).2.2.2.2.2.1 hc6), fun hc6 => ⟨isT_C ht, ⟨isArr.in (T_ways ht) ((H.2.2.2 hc7).2.2.2.2.2.2 hc6).1.1 ((H.2.2.2 hc7).2.2.2.2.2.2 hc6).1.2, ((H.2.2.2 hc7).2.2.2.2.2.2 hc6).2⟩⟩⟩⟩⟩⟩⟩⟩⟩⟩⟩
theorem body_X7_findWays {t : Int} {μ : Mem} {R : Mem → Option AV → Prop} (h : P_X7_findWays t μ) (hR : ∀ μ' : Mem, Q_X7_findWays t μ μ' → R μ' none) : V_X7_findWays R 0 [(0, kR t)] μ := by
  obtain ⟨ht, ok⟩ := h
  have hp : 2 ≤ μ t 1 ∧ μ t 1 ≤ 8 := ok.1
  have hI := fwI_all ok (inf := 1000000) (by omega)
  have hF := fun (n : Int) (hn : 0 ≤ n) => fw_diag hI.1 (fun a b => (hI.2 a b).1) hn
  refine vc_X7_findWays_0 ht ?_
  -- the stages
  have p3 : ∀ m : Int, 0 ≤ m → m ≤ μ t 1 → ∀ μ1 : Mem, (∀ z : Int, z ≠ t + 2 → μ1 z = μ z) → Holds2 μ1 (t + 2) (μ t 1) (fw (fwI 1000000 (tv μ t 7)) m) → V_X7_findWays R 68 [(0, kR t), (1, kI m)] μ1 := by
    refine up_ind (P := fun m => ∀ μ1 : Mem, (∀ z : Int, z ≠ t + 2 → μ1 z = μ z) → Holds2 μ1 (t + 2) (μ t 1) (fw (fwI 1000000 (tv μ t 7)) m) → V_X7_findWays R 68 [(0, kR t), (1, kI m)] μ1) ?_ ?_
    · intro m m0 m1 ih μ1 hf hh
      have e1 : μ1 t 1 = μ t 1 := by rw [hf t (by omega)]
      have hD := hF m m0
      have es : fw (fwI 1000000 (tv μ t 7)) (m + 1) = fwS (fw (fwI 1000000 (tv μ t 7)) m) m := fold_s m0
      rw [es] at ih
      generalize fw (fwI 1000000 (tv μ t 7)) m = M at ih hh hD
      have hM : ∀ a b, 0 ≤ M a b ∧ M a b ≤ 1000000 := fun a b => ⟨(hD.2 a b).1, Int.le_trans (hD.2 a b).2 (hI.2 a b).2⟩
      have pa : ∀ a : Int, 0 ≤ a → a ≤ μ t 1 → ∀ μ1 : Mem, (∀ z : Int, z ≠ t + 2 → μ1 z = μ z) → Stage μ1 (t + 2) (μ t 1) M m a 0 → V_X7_findWays R 78 [(0, kR t), (1, kI m), (2, kI a)] μ1 := by
        refine up_ind (P := fun a => ∀ μ1 : Mem, (∀ z : Int, z ≠ t + 2 → μ1 z = μ z) → Stage μ1 (t + 2) (μ t 1) M m a 0 → V_X7_findWays R 78 [(0, kR t), (1, kI m), (2, kI a)] μ1) ?_ ?_
        · intro a a0 a1 iha μ2 hf2 hs2
          have e2 : μ2 t 1 = μ t 1 := by rw [hf2 t (by omega)]
          have pb : ∀ b : Int, 0 ≤ b → b ≤ μ t 1 → ∀ μ1 : Mem, (∀ z : Int, z ≠ t + 2 → μ1 z = μ z) → Stage μ1 (t + 2) (μ t 1) M m a b → V_X7_findWays R 88 [(0, kR t), (1, kI m), (2, kI a), (3, kI b)] μ1 := by
            refine up_ind (P := fun b => ∀ μ1 : Mem, (∀ z : Int, z ≠ t + 2 → μ1 z = μ z) → Stage μ1 (t + 2) (μ t 1) M m a b → V_X7_findWays R 88 [(0, kR t), (1, kI m), (2, kI a), (3, kI b)] μ1) ?_ ?_
            · intro b b0 b1 ihb μ3 hf3 hs3
              have e3 : μ3 t 1 = μ t 1 := by rw [hf3 t (by omega)]
              have hr := hs3.row hD.1 (fun a b => (hM a b).1) m0 m1
              have ram := hr.1 a a0 a1
              have rmb := hr.2 b b0 b1
              have rab := (hs3 a b a0 a1 b0 b1).2 (by unfold done; omega)
              have x1 := hM a m
              have x2 := hM m b
              have x3 := hM a b
              have i1 : a * 8 + m = 8 * a + m := by omega
              have i2 : m * 8 + b = 8 * m + b := by omega
              have i3 : a * 8 + b = 8 * a + b := by omega
              refine vc_X7_findWays_88 ht ?_
              rw [e3, i1, i2, i3, ram, rmb, rab]
              refine ⟨rr (by omega), rr (by omega), fun c => absurd c (by omega), fun _ => ⟨by omega, by omega, by omega, rr (by omega), rr (by omega), fun c => ?_, fun c => ⟨by omega, ?_⟩⟩⟩
              · exact ihb μ3 hf3 (hs3.keep ⟨a0, a1⟩ ⟨b0, b1⟩ c)
              · refine ihb _ (fun z hz => ?_) (hs3.put (by omega) ⟨a0, a1⟩ ⟨b0, b1⟩ (by omega))
                rw [ru_ne hz]; exact hf3 z hz
            · intro μ3 hf3 hs3
              have e3 : μ3 t 1 = μ t 1 := by rw [hf3 t (by omega)]
              refine vc_X7_findWays_88 ht ?_
              rw [e3]
              exact ⟨rr (by omega), rr (by omega), fun _ => iha μ3 hf3 hs3.next, fun c => absurd (Int.le_refl _) c⟩
          refine vc_X7_findWays_78 ht ?_
          rw [e2]
          exact ⟨rr (by omega), rr (by omega), fun c => absurd c (by omega), fun _ => pb 0 (by omega) (by omega) μ2 hf2 hs2⟩
        · intro μ2 hf2 hs2
          have e2 : μ2 t 1 = μ t 1 := by rw [hf2 t (by omega)]
          refine vc_X7_findWays_78 ht ?_
          rw [e2]
          exact ⟨rr (by omega), rr (by omega), fun _ => ih μ2 hf2 hs2.fin, fun c => absurd (Int.le_refl _) c⟩
      refine vc_X7_findWays_68 ht ?_
      rw [e1]
      exact ⟨rr (by omega), rr (by omega), fun c => absurd c (by omega), fun _ => pa 0 (by omega) (by omega) μ1 hf (Stage.start hh)⟩
    · intro μ1 hf hh
      have e1 : μ1 t 1 = μ t 1 := by rw [hf t (by omega)]
      refine vc_X7_findWays_68 ht ?_
      rw [e1]
      exact ⟨rr (by omega), rr (by omega), fun _ => hR μ1 ⟨hh, hf⟩, fun c => absurd (Int.le_refl _) c⟩
  -- the places themselves
  have p2 : ∀ i : Int, 0 ≤ i → i ≤ 8 → ∀ μ1 : Mem, (∀ z : Int, z ≠ t + 2 → μ1 z = μ z) → (∀ a b : Int, 0 ≤ a → a < 8 → 0 ≤ b → b < 8 → μ1 (t + 2) (8 * a + b) = if a = b ∧ a < i then 0 else if tv μ t 7 (8 * a + b) = 0 then 1000000 else tv μ t 7 (8 * a + b)) → V_X7_findWays R 42 [(0, kR t), (1, kI i)] μ1 := by
    refine up_ind (P := fun i => ∀ μ1 : Mem, (∀ z : Int, z ≠ t + 2 → μ1 z = μ z) → (∀ a b : Int, 0 ≤ a → a < 8 → 0 ≤ b → b < 8 → μ1 (t + 2) (8 * a + b) = if a = b ∧ a < i then 0 else if tv μ t 7 (8 * a + b) = 0 then 1000000 else tv μ t 7 (8 * a + b)) → V_X7_findWays R 42 [(0, kR t), (1, kI i)] μ1) ?_ ?_
    · intro i i0 i1 ih μ1 hf hh
      have i3 : i * 8 + i = 8 * i + i := by omega
      refine vc_X7_findWays_42 ht ⟨rr (by omega), fun c => absurd c (by omega), fun _ => ⟨by omega, ?_⟩⟩
      refine ih _ (fun z hz => ?_) (fun a b a0 a1 b0 b1 => ?_)
      · rw [ru_ne hz]; exact hf z hz
      · rw [ru_eq, i3]
        by_cases he : a = i ∧ b = i
        · obtain ⟨rfl, rfl⟩ := he
          rw [r1_eq, if_pos ⟨rfl, by omega⟩]
        · rw [r1_ne (fun q => he (idx_inj ⟨b0, b1⟩ ⟨i0, i1⟩ q)), hh a b a0 a1 b0 b1]
          by_cases h1 : a = b ∧ a < i
          · rw [if_pos h1, if_pos (by omega)]
          · rw [if_neg h1, if_neg (show ¬ (a = b ∧ a < i + 1) by omega)]
    · intro μ1 hf hh
      refine vc_X7_findWays_42 ht ⟨rr (by omega), fun _ => ?_, fun c => absurd (Int.le_refl _) c⟩
      refine p3 0 (by omega) (by omega) μ1 hf (fun a b a0 a1 b0 b1 => ?_)
      rw [hh a b a0 (by omega) b0 (by omega)]
      show _ = fwI 1000000 (tv μ t 7) a b
      unfold fwI
      by_cases h1 : a = b
      · rw [if_pos ⟨h1, by omega⟩, if_pos h1]
      · rw [if_neg (fun q => h1 q.1), if_neg h1]
  -- the lanes
  refine up_ind (P := fun i => ∀ μ1 : Mem, (∀ z : Int, z ≠ t + 2 → μ1 z = μ z) → (∀ j : Int, 0 ≤ j → j < i → μ1 (t + 2) j = if tv μ t 7 j = 0 then 1000000 else tv μ t 7 j) → V_X7_findWays R 2 [(0, kR t), (1, kI i)] μ1) (lo := 0) (hi := 64) ?_ ?_ 0 (by omega) (by omega) μ (fun _ _ => rfl) (fun j a b => absurd a (by omega))
  · intro i i0 i1 ih μ1 hf hh
    have em : μ1 (t + 1) i = tv μ t 7 i := by
      rw [hf (t + 1) (by omega)]
      exact (clip_in (f := μ (t + 1)) i0 i1).symm
    have hb := tv7_nn ok i
    have nx : ∀ x : Int, x = (if tv μ t 7 i = 0 then 1000000 else tv μ t 7 i) → V_X7_findWays R 2 [(0, kR t), (1, kI (i + 1))] (updm μ1 (t + 2) i x) := by
      intro x hx
      refine ih _ (fun z hz => ?_) (fun j j0 j1 => ?_)
      · rw [ru_ne hz]; exact hf z hz
      · rw [ru_eq]
        by_cases hj : j = i
        · rw [hj, r1_eq, hx]
        · rw [r1_ne hj]; exact hh j j0 (by omega)
    refine vc_X7_findWays_2 ht ?_
    rw [em]
    refine ⟨rr (by omega), fun c => absurd c (by omega), fun _ => ⟨⟨i0, i1⟩, rr (by omega), fun c => ⟨⟨i0, i1⟩, ⟨i0, i1⟩, nx _ (by rw [if_neg c])⟩, fun c => ⟨⟨i0, i1⟩, nx _ (by rw [if_pos (by omega)])⟩⟩⟩
  · intro μ1 hf hh
    refine vc_X7_findWays_2 ht ⟨rr (by omega), fun _ => ?_, fun c => absurd (Int.le_refl _) c⟩
    refine p2 0 (by omega) (by omega) μ1 hf (fun a b a0 a1 b0 b1 => ?_)
    rw [hh _ (by omega) (by omega), if_neg (show ¬ (a = b ∧ a < 0) by omega)]
theorem ct_X7_findWays : Ct mX7_findWays 0 0 0 0 (nrmS S_X7_findWays) := by
  refine ct_vm (own := RX7) (by decide +kernel) rfl ?_ ?_
  · intro as μ Q hS
    unfold S_X7_findWays at hS
    split at hS
    · exact Nat.le_of_ble_eq_true rfl
    · exact hS.elim
  · intro as μ R hS
    unfold S_X7_findWays at hS
    split at hS
    · exact body_X7_findWays hS.1 hS.2
    · exact hS.elim
