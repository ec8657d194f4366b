theorem has_or {x a : Int} (x0 : 0 ≤ x) (x1 : x < 256) (a0 : 0 ≤ a) (a1 : a < 8) : (0 ≤ bor x (bshl 1 a) ∧ bor x (bshl 1 a) < 256) ∧ ∀ b : Int, 0 ≤ b → b < 8 → hasB (bor x (bshl 1 a)) b = (hasB x b || decide (b = a)) := by
  have bd := bitsV_bd (p := fun b => hasB x b || decide (b = a)) (n := 8) (by omega)
  have hs := bitsV_has (p := fun b => hasB x b || decide (b = a)) (n := 8) (by omega)
  have bd' : 0 ≤ bitsV (fun b => hasB x b || decide (b = a)) 8 ∧ bitsV (fun b => hasB x b || decide (b = a)) 8 < 256 := bd
  have e := or_put (y := bitsV (fun b => hasB x b || decide (b = a)) 8) x0 x1 a0 a1 bd'.1 bd'.2 (fun b b0 b1 => by rw [hs b b0, decide_eq_true b1, Bool.true_and])
  rw [e]
  exact ⟨bd', fun b b0 b1 => by rw [hs b b0, decide_eq_true b1, Bool.true_and]⟩
/-- what is read of lanes, chances -/
def cellB (m : Mem) : Prop := (∀ j : Int, 0 ≤ j → j < 64 → 0 ≤ m 204 (40 + j) ∧ m 204 (40 + j) ≤ 20) ∧ (0 ≤ m 204 3 ∧ m 204 3 ≤ 12) ∧ (2 ≤ m 204 0 ∧ m 204 0 ≤ 8) ∧ ∀ a : Int, 0 ≤ a → a < 8 → 0 ≤ m 204 (10 + a) ∧ m 204 (10 + a) ≤ 99
theorem RV_cell {v : TV} {m : Mem} (hv : RdOk v) (h : RVm v m) : cellB m := by
  obtain ⟨r0, r1, r2, r3, r4, r7, r8⟩ := h
  have ok := hv.1
  refine ⟨fun j j0 j1 => by rw [r7 j j0 j1]; exact ok.2.2.2.2.2.1 j j0 j1, by rw [r3]; exact ok.2.2.1, by rw [r0]; exact ok.1, fun a a0 a1 => by rw [(r4 a a0 a1).1]; exact (ok.2.2.2.1 a a0 a1).1⟩
def begC (j : Int) : Int := if 20 ≤ j ∧ j < 28 then 12 else if 30 ≤ j ∧ j < 38 then 1 else 0
def P_X11_begins (o : Int) (_ : Mem) : Prop := o = 201
def Q_X11_begins (_ : Int) (μ μ' : Mem) : Prop := (μ' 201 2 = μ 202 2 ∧ μ' 201 3 = 0 ∧ μ' 201 8 = 0 ∧ μ' 201 9 = 0 ∧ ∀ f : Int, f ≠ 2 → f ≠ 3 → f ≠ 8 → f ≠ 9 → μ' 201 f = μ 201 f) ∧ (μ' 202 2 = 0 ∧ μ' 202 3 = 0 ∧ μ' 202 4 = -1 ∧ ∀ j : Int, j ≠ 2 → j ≠ 3 → j ≠ 4 → μ' 202 j = μ 202 j) ∧ (∀ j : Int, 0 ≤ j → j < 104 → μ' 204 j = begC j) ∧ ∀ z : Int, z ≠ 201 → z ≠ 202 → z ≠ 204 → μ' z = μ z
def S_X11_begins : S0t := fun as μ Q => match as with
  | [(2, x0)] => P_X11_begins x0 μ ∧ ∀ (μ' : Mem) , Q_X11_begins x0 μ μ'  → Q μ' none
  | _ => False
theorem mono_X11_begins : Mono S_X11_begins := by
  intro as μ Q Q' h hS
  unfold S_X11_begins at hS ⊢
  split at hS
  · exact ⟨hS.1, fun μ' q => h _ _ (hS.2 _ q)⟩
  · exact hS.elim
def iX11_begins : Inf := (kX11_begins, fTX11, pTX11, cTX11, lTX11, sTX11, [])
theorem ok_X11_begins : infOK iX11_begins mX11_begins RX11 0 0 := ⟨kkX11_begins, fTX11_ok, pTX11_ok _, cTX11_ok, lTX11_ok, sTX11_ok, c_nil⟩
theorem mt_X11_begins : mtOK [] RX11 0 0 := mt_nil
abbrev V_X11_begins (R : Mem → Option AV → Prop) (pc : Nat) (lc : List (Nat × AV)) (μ : Mem) : Prop := VM mX11_begins RX11 0 0 R pc lc [] μ
set_option maxRecDepth 20000 in
theorem vc_X11_begins_0 {R : Mem → Option AV → Prop} {μ : Mem} (H : V_X11_begins R 10 [(0, kR 201)] (updm μ 201 2 (μ 202 2))) : V_X11_begins R 0 [(0, kR 201)] μ := by
  refine vm_step2 mt_X11_begins ok_X11_begins [(10, [0]), (17, [0]), (22, [0]), (29, [0]), (36, [0]), (41, [0]), (46, [0]), (48, [0, 1]), (61, [0, 1]), (69, [0, 1]), (86, [0, 1]), (96, [0, 1])] 1000 ?_
  show isC 201 11 ∧ inA 202 0 (2 : Int) ∧ isC 201 11 ∧ 0 = 0 ∧ True ∧ V_X11_begins R 10 [(0, kR 201)] (updm μ 201 2 (μ 202 2))
  exact ⟨c_201, ⟨isArr.in a_202 (by omega) (by omega), ⟨c_201, rfl, trivial, H⟩⟩⟩
set_option maxRecDepth 20000 in
theorem vc_X11_begins_10 {R : Mem → Option AV → Prop} {μ : Mem} (H : V_X11_begins R 17 [(0, kR 201)] (updm μ 202 2 0)) : V_X11_begins R 10 [(0, kR 201)] μ := by
  refine vm_step2 mt_X11_begins ok_X11_begins [(10, [0]), (17, [0]), (22, [0]), (29, [0]), (36, [0]), (41, [0]), (46, [0]), (48, [0, 1]), (61, [0, 1]), (69, [0, 1]), (86, [0, 1]), (96, [0, 1])] 1000 ?_
  show isC 201 11 ∧ inA 202 0 (2 : Int) ∧ V_X11_begins R 17 [(0, kR 201)] (updm μ 202 2 0)
  exact ⟨c_201, ⟨isArr.in a_202 (by omega) (by omega), H⟩⟩
set_option maxRecDepth 20000 in
theorem vc_X11_begins_17 {R : Mem → Option AV → Prop} {μ : Mem} (H : V_X11_begins R 22 [(0, kR 201)] (updm μ 201 3 0)) : V_X11_begins R 17 [(0, kR 201)] μ := by
  refine vm_step2 mt_X11_begins ok_X11_begins [(10, [0]), (17, [0]), (22, [0]), (29, [0]), (36, [0]), (41, [0]), (46, [0]), (48, [0, 1]), (61, [0, 1]), (69, [0, 1]), (86, [0, 1]), (96, [0, 1])] 1000 ?_
  show isC 201 11 ∧ 0 = 0 ∧ True ∧ V_X11_begins R 22 [(0, kR 201)] (updm μ 201 3 0)
  exact ⟨c_201, rfl, trivial, H⟩
set_option maxRecDepth 20000 in
theorem vc_X11_begins_22 {R : Mem → Option AV → Prop} {μ : Mem} (H : V_X11_begins R 29 [(0, kR 201)] (updm μ 202 3 0)) : V_X11_begins R 22 [(0, kR 201)] μ := by
  refine vm_step2 mt_X11_begins ok_X11_begins [(10, [0]), (17, [0]), (22, [0]), (29, [0]), (36, [0]), (41, [0]), (46, [0]), (48, [0, 1]), (61, [0, 1]), (69, [0, 1]), (86, [0, 1]), (96, [0, 1])] 1000 ?_
  show isC 201 11 ∧ inA 202 0 (3 : Int) ∧ V_X11_begins R 29 [(0, kR 201)] (updm μ 202 3 0)
  exact ⟨c_201, ⟨isArr.in a_202 (by omega) (by omega), H⟩⟩
set_option maxRecDepth 20000 in
theorem vc_X11_begins_29 {R : Mem → Option AV → Prop} {μ : Mem} (H : V_X11_begins R 36 [(0, kR 201)] (updm μ 202 4 (-1))) : V_X11_begins R 29 [(0, kR 201)] μ := by
  refine vm_step2 mt_X11_begins ok_X11_begins [(10, [0]), (17, [0]), (22, [0]), (29, [0]), (36, [0]), (41, [0]), (46, [0]), (48, [0, 1]), (61, [0, 1]), (69, [0, 1]), (86, [0, 1]), (96, [0, 1])] 1000 ?_
  show isC 201 11 ∧ inA 202 0 (4 : Int) ∧ V_X11_begins R 36 [(0, kR 201)] (updm μ 202 4 (-1))
  exact ⟨c_201, ⟨isArr.in a_202 (by omega) (by omega), H⟩⟩
set_option maxRecDepth 20000 in
theorem vc_X11_begins_36 {R : Mem → Option AV → Prop} {μ : Mem} (H : V_X11_begins R 41 [(0, kR 201)] (updm μ 201 8 0)) : V_X11_begins R 36 [(0, kR 201)] μ := by
  refine vm_step2 mt_X11_begins ok_X11_begins [(10, [0]), (17, [0]), (22, [0]), (29, [0]), (36, [0]), (41, [0]), (46, [0]), (48, [0, 1]), (61, [0, 1]), (69, [0, 1]), (86, [0, 1]), (96, [0, 1])] 1000 ?_
  show isC 201 11 ∧ 0 = 0 ∧ (0 ≤ (0 : Int) ∧ 0 ≤ 1) ∧ V_X11_begins R 41 [(0, kR 201)] (updm μ 201 8 0)
  exact ⟨c_201, rfl, by omega, H⟩
set_option maxRecDepth 20000 in
theorem vc_X11_begins_41 {R : Mem → Option AV → Prop} {μ : Mem} (H : V_X11_begins R 46 [(0, kR 201)] (updm μ 201 9 0)) : V_X11_begins R 41 [(0, kR 201)] μ := by
  refine vm_step2 mt_X11_begins ok_X11_begins [(10, [0]), (17, [0]), (22, [0]), (29, [0]), (36, [0]), (41, [0]), (46, [0]), (48, [0, 1]), (61, [0, 1]), (69, [0, 1]), (86, [0, 1]), (96, [0, 1])] 1000 ?_
  show isC 201 11 ∧ 0 = 0 ∧ True ∧ V_X11_begins R 46 [(0, kR 201)] (updm μ 201 9 0)
  exact ⟨c_201, rfl, trivial, H⟩
set_option maxRecDepth 20000 in
theorem vc_X11_begins_46 {R : Mem → Option AV → Prop} {μ : Mem} (H : V_X11_begins R 48 [(0, kR 201), (1, kI 0)] μ) : V_X11_begins R 46 [(0, kR 201)] μ := by
  refine vm_step2 mt_X11_begins ok_X11_begins [(10, [0]), (17, [0]), (22, [0]), (29, [0]), (36, [0]), (41, [0]), (46, [0]), (48, [0, 1]), (61, [0, 1]), (69, [0, 1]), (86, [0, 1]), (96, [0, 1])] 1000 ?_
  show V_X11_begins R 48 [(0, kR 201), (1, kI 0)] μ
  exact H
set_option maxRecDepth 20000 in
theorem vc_X11_begins_48 {R : Mem → Option AV → Prop} {i : Int} {μ : Mem} (H : r32 i ∧ (((104 : Int) ≤ i) → V_X11_begins R 69 [(0, kR 201), (1, kI 0)] μ) ∧ (¬ ((104 : Int) ≤ i) → (0 ≤ i ∧ i < 104) ∧ V_X11_begins R 61 [(0, kR 201), (1, kI i)] (updm μ 204 i 0))) : V_X11_begins R 48 [(0, kR 201), (1, kI i)] μ := by
  refine vm_step2 mt_X11_begins ok_X11_begins [(10, [0]), (17, [0]), (22, [0]), (29, [0]), (36, [0]), (41, [0]), (46, [0]), (48, [0, 1]), (61, [0, 1]), (69, [0, 1]), (86, [0, 1]), (96, [0, 1])] 1000 ?_
  show (r32 i ∧ r32 (104 : Int)) ∧ (((104 : Int) ≤ i) → V_X11_begins R 69 [(0, kR 201), (1, kI 0)] μ) ∧ (¬ ((104 : Int) ≤ i) → isC 201 11 ∧ inA 204 0 i ∧ V_X11_begins R 61 [(0, kR 201), (1, kI i)] (updm μ 204 i 0))
  exact ⟨⟨H.1, by unfold r32; omega⟩, fun hc1 => (H.2.1 hc1), fun hc1 => ⟨c_201, ⟨isArr.in a_204 (H.2.2 hc1).1.1 (H.2.2 hc1).1.2, (H.2.2 hc1).2⟩⟩⟩
set_option maxRecDepth 20000 in
theorem vc_X11_begins_61 {R : Mem → Option AV → Prop} {i : Int} {μ : Mem} (H : V_X11_begins R 48 [(0, kR 201), (1, kI (i + 1))] μ) : V_X11_begins R 61 [(0, kR 201), (1, kI i)] μ := by
  refine vm_step2 mt_X11_begins ok_X11_begins [(10, [0]), (17, [0]), (22, [0]), (29, [0]), (36, [0]), (41, [0]), (46, [0]), (48, [0, 1]), (61, [0, 1]), (69, [0, 1]), (86, [0, 1]), (96, [0, 1])] 1000 ?_
  show V_X11_begins R 48 [(0, kR 201), (1, kI (i + 1))] μ
  exact H
set_option maxRecDepth 20000 in
theorem vc_X11_begins_69 {R : Mem → Option AV → Prop} {i : Int} {μ : Mem} (H : r32 i ∧ (((8 : Int) ≤ i) → R μ none) ∧ (¬ ((8 : Int) ≤ i) → (0 ≤ (20 + i) ∧ (20 + i) < 104) ∧ V_X11_begins R 86 [(0, kR 201), (1, kI i)] (updm μ 204 (20 + i) 12))) : V_X11_begins R 69 [(0, kR 201), (1, kI i)] μ := by
  refine vm_step2 mt_X11_begins ok_X11_begins [(10, [0]), (17, [0]), (22, [0]), (29, [0]), (36, [0]), (41, [0]), (46, [0]), (48, [0, 1]), (61, [0, 1]), (69, [0, 1]), (86, [0, 1]), (96, [0, 1])] 1000 ?_
  show (r32 i ∧ r32 (8 : Int)) ∧ (((8 : Int) ≤ i) → R μ none) ∧ (¬ ((8 : Int) ≤ i) → isC 201 11 ∧ inA 204 0 (20 + i) ∧ V_X11_begins R 86 [(0, kR 201), (1, kI i)] (updm μ 204 (20 + i) 12))
  exact ⟨⟨H.1, by unfold r32; omega⟩, fun hc2 => (H.2.1 hc2), fun hc2 => ⟨c_201, ⟨isArr.in a_204 (H.2.2 hc2).1.1 (H.2.2 hc2).1.2, (H.2.2 hc2).2⟩⟩⟩
set_option maxRecDepth 20000 in
theorem vc_X11_begins_86 {R : Mem → Option AV → Prop} {i : Int} {μ : Mem} (H : (0 ≤ (30 + i) ∧ (30 + i) < 104) ∧ V_X11_begins R 96 [(0, kR 201), (1, kI i)] (updm μ 204 (30 + i) 1)) : V_X11_begins R 86 [(0, kR 201), (1, kI i)] μ := by
  refine vm_step2 mt_X11_begins ok_X11_begins [(10, [0]), (17, [0]), (22, [0]), (29, [0]), (36, [0]), (41, [0]), (46, [0]), (48, [0, 1]), (61, [0, 1]), (69, [0, 1]), (86, [0, 1]), (96, [0, 1])] 1000 ?_
  show isC 201 11 ∧ inA 204 0 (30 + i) ∧ V_X11_begins R 96 [(0, kR 201), (1, kI i)] (updm μ 204 (30 + i) 1)
  exact ⟨c_201, ⟨isArr.in a_204 H.1.1 H.1.2, H.2⟩⟩
set_option maxRecDepth 20000 in
theorem vc_X11_begins_96 {R : Mem → Option AV → Prop} {i : Int} {μ : Mem} (H : V_X11_begins R 69 [(0, kR 201), (1, kI (i + 1))] μ) : V_X11_begins R 96 [(0, kR 201), (1, kI i)] μ := by
  refine vm_step2 mt_X11_begins ok_X11_begins [(10, [0]), (17, [0]), (22, [0]), (29, [0]), (36, [0]), (41, [0]), (46, [0]), (48, [0, 1]), (61, [0, 1]), (69, [0, 1]), (86, [0, 1]), (96, [0, 1])] 1000 ?_
  show V_X11_begins R 69 [(0, kR 201), (1, kI (i + 1))] μ
  exact H
theorem body_X11_begins {o : Int} {μ : Mem} {R : Mem → Option AV → Prop} (h : P_X11_begins o μ) (hR : ∀ μ' : Mem, Q_X11_begins o μ μ' → R μ' none) : V_X11_begins R 0 [(0, kR o)] μ := by
  have h : o = 201 := h
  subst h
  obtain ⟨B, eB⟩ : ∃ B : Mem → Prop, ∀ m, B m = ((m 201 2 = μ 202 2 ∧ m 201 3 = 0 ∧ m 201 8 = 0 ∧ m 201 9 = 0 ∧ ∀ f : Int, f ≠ 2 → f ≠ 3 → f ≠ 8 → f ≠ 9 → m 201 f = μ 201 f) ∧ (m 202 2 = 0 ∧ m 202 3 = 0 ∧ m 202 4 = -1 ∧ ∀ j : Int, j ≠ 2 → j ≠ 3 → j ≠ 4 → m 202 j = μ 202 j) ∧ ∀ z : Int, z ≠ 201 → z ≠ 202 → z ≠ 204 → m z = μ z) := ⟨_, fun _ => rfl⟩
  have Bput : ∀ (m : Mem) (j w : Int), B m → B (updm m 204 j w) := fun m j w hb => by
    rw [eB] at hb ⊢
    rw [ru_ne (show (201 : Int) ≠ 204 by omega), ru_ne (show (202 : Int) ≠ 204 by omega)]
    exact ⟨hb.1, hb.2.1, fun z a b c => by rw [ru_ne c]; exact hb.2.2 z a b c⟩
  have two := up_ind (P := fun i => ∀ m : Mem, B m → (∀ j : Int, 0 ≤ j → j < 104 → m 204 j = if 20 ≤ j ∧ j < 20 + i then 12 else if 30 ≤ j ∧ j < 30 + i then 1 else 0) → V_X11_begins R 69 [(0, kR 201), (1, kI i)] m) (lo := 0) (hi := 8) ?_ ?_
  rotate_left
  · intro i i0 i1 ih m hb hm
    refine vc_X11_begins_69 ⟨rr (by omega), fun c => absurd c (by omega), fun _ => ⟨by omega, vc_X11_begins_86 ⟨by omega, vc_X11_begins_96 (ih _ (Bput _ _ _ (Bput m _ _ hb)) (fun j j0 j1 => ?_))⟩⟩⟩
    rw [ru_eq, ru_eq]
    by_cases a : j = 30 + i
    · rw [a, r1_eq, if_neg (by omega), if_pos (by omega)]
    · rw [r1_ne a]
      by_cases b : j = 20 + i
      · rw [b, r1_eq, if_pos (by omega)]
      · rw [r1_ne b, hm j j0 j1]
        by_cases c : 20 ≤ j ∧ j < 20 + i
        · rw [if_pos c, if_pos (show 20 ≤ j ∧ j < 20 + (i + 1) by omega)]
        · rw [if_neg c, if_neg (show ¬ (20 ≤ j ∧ j < 20 + (i + 1)) by omega)]
          by_cases d : 30 ≤ j ∧ j < 30 + i
          · rw [if_pos d, if_pos (show 30 ≤ j ∧ j < 30 + (i + 1) by omega)]
          · rw [if_neg d, if_neg (show ¬ (30 ≤ j ∧ j < 30 + (i + 1)) by omega)]
  · intro m hb hm
    refine vc_X11_begins_69 ⟨rr (by omega), fun _ => hR m ?_, fun c => absurd (Int.le_refl _) c⟩
    rw [eB] at hb
    exact ⟨hb.1, hb.2.1, fun j j0 j1 => hm j j0 j1, hb.2.2⟩
  have one := up_ind (P := fun i => ∀ m : Mem, B m → (∀ j : Int, 0 ≤ j → j < i → m 204 j = 0) → V_X11_begins R 48 [(0, kR 201), (1, kI i)] m) (lo := 0) (hi := 104) ?_ ?_
  rotate_left
  · intro i i0 i1 ih m hb hm
    refine vc_X11_begins_48 ⟨rr (by omega), fun c => absurd c (by omega), fun _ => ⟨by omega, vc_X11_begins_61 (ih _ (Bput m _ _ hb) (fun j j0 j1 => ?_))⟩⟩
    rw [ru_eq]
    by_cases a : j = i
    · rw [a, r1_eq]
    · rw [r1_ne a]; exact hm j j0 (by omega)
  · intro m hb hm
    refine vc_X11_begins_48 ⟨rr (by omega), fun _ => two 0 (by omega) (by omega) m hb (fun j j0 j1 => ?_), fun c => absurd (Int.le_refl _) c⟩
    rw [hm j j0 j1, if_neg (by omega), if_neg (by omega)]
  refine vc_X11_begins_0 (vc_X11_begins_10 (vc_X11_begins_17 (vc_X11_begins_22 (vc_X11_begins_29 (vc_X11_begins_36 (vc_X11_begins_41 (vc_X11_begins_46 (one 0 (by omega) (by omega) _ ?_ (fun j j0 j1 => absurd j0 (by omega)))))))))) 
  rw [eB]
  refine ⟨⟨?_, ?_, ?_, ?_, fun f a b c d => ?_⟩, ⟨?_, ?_, ?_, fun j a b c => ?_⟩, fun z a b c => ?_⟩
  · rw [ru_eq, r1_ne (by omega), ru_eq, r1_ne (by omega), ru_ne (by omega), ru_ne (by omega), ru_eq, r1_ne (by omega), ru_ne (by omega), ru_eq, r1_eq]
  · rw [ru_eq, r1_ne (by omega), ru_eq, r1_ne (by omega), ru_ne (by omega), ru_ne (by omega), ru_eq, r1_eq]
  · rw [ru_eq, r1_ne (by omega), ru_eq, r1_eq]
  · rw [ru_eq, r1_eq]
  · rw [ru_eq, r1_ne d, ru_eq, r1_ne c, ru_ne (by omega), ru_ne (by omega), ru_eq, r1_ne b, ru_ne (by omega), ru_eq, r1_ne a]
  · rw [ru_ne (by omega), ru_ne (by omega), ru_eq, r1_ne (by omega), ru_eq, r1_ne (by omega), ru_ne (by omega), ru_eq, r1_eq]
  · rw [ru_ne (by omega), ru_ne (by omega), ru_eq, r1_ne (by omega), ru_eq, r1_eq]
  · rw [ru_ne (by omega), ru_ne (by omega), ru_eq, r1_eq]
  · rw [ru_ne (by omega), ru_ne (by omega), ru_eq, r1_ne c, ru_eq, r1_ne b, ru_ne (by omega), ru_eq, r1_ne a, ru_ne (by omega)]
  · rw [ru_ne a, ru_ne a, ru_ne b, ru_ne b, ru_ne a, ru_ne b, ru_ne a]
theorem ct_X11_begins : Ct mX11_begins 0 0 0 0 (nrmS S_X11_begins) := by
  refine ct_vm (own := RX11) (by decide +kernel) rfl ?_ ?_
  · intro as μ Q hS
    unfold S_X11_begins at hS
    split at hS
    · exact Nat.le_of_ble_eq_true rfl
    · exact hS.elim
  · intro as μ R hS
    unfold S_X11_begins at hS
    split at hS
    · exact body_X11_begins hS.1 hS.2
    · exact hS.elim
def P_X11_lanesAt (o a : Int) (μ : Mem) : Prop := o = 201 ∧ (0 ≤ a ∧ a < 8) ∧ ∀ j : Int, 0 ≤ j → j < 64 → 0 ≤ μ 204 (40 + j) ∧ μ 204 (40 + j) ≤ 20
def F_X11_lanesAt (_ a : Int) (μ : Mem) : Int := sm (fun b => if μ 204 (40 + 8 * a + b) ≤ 0 then 0 else 1) 8
def S_X11_lanesAt : S0t := fun as μ Q => match as with
  | [(2, x0), (0, x1)] => P_X11_lanesAt x0 x1 μ ∧ Q μ (some (kI (F_X11_lanesAt x0 x1 μ)))
  | _ => False
theorem mono_X11_lanesAt : Mono S_X11_lanesAt := by
  intro as μ Q Q' h hS
  unfold S_X11_lanesAt at hS ⊢
  split at hS
  · exact ⟨hS.1, h _ _ hS.2⟩
  · exact hS.elim
def iX11_lanesAt : Inf := (kX11_lanesAt, fTX11, pTX11, cTX11, lTX11, sTX11, [])
theorem ok_X11_lanesAt : infOK iX11_lanesAt mX11_lanesAt RX11 0 0 := ⟨kkX11_lanesAt, fTX11_ok, pTX11_ok _, cTX11_ok, lTX11_ok, sTX11_ok, c_nil⟩
theorem mt_X11_lanesAt : mtOK [] RX11 0 0 := mt_nil
abbrev V_X11_lanesAt (R : Mem → Option AV → Prop) (pc : Nat) (lc : List (Nat × AV)) (μ : Mem) : Prop := VM mX11_lanesAt RX11 0 0 R pc lc [] μ
set_option maxRecDepth 20000 in
theorem vc_X11_lanesAt_0 {R : Mem → Option AV → Prop} {a : Int} {μ : Mem} (H : V_X11_lanesAt R 4 [(0, kR 201), (1, kI a), (2, kI 0), (3, kI 0)] μ) : V_X11_lanesAt R 0 [(0, kR 201), (1, kI a)] μ := by
  refine vm_step2 mt_X11_lanesAt ok_X11_lanesAt [(4, [0, 1, 2, 3])] 1000 ?_
  show V_X11_lanesAt R 4 [(0, kR 201), (1, kI a), (2, kI 0), (3, kI 0)] μ
  exact H
set_option maxRecDepth 20000 in
theorem vc_X11_lanesAt_4 {R : Mem → Option AV → Prop} {a n b : Int} {μ : Mem} (H : r32 b ∧ (((8 : Int) ≤ b) → R μ (some (kI n))) ∧ (¬ ((8 : Int) ≤ b) → (0 ≤ ((40 + (8 * a)) + b) ∧ ((40 + (8 * a)) + b) < 104) ∧ r32 (μ 204 ((40 + (8 * a)) + b)) ∧ (((μ 204 ((40 + (8 * a)) + b)) ≤ 0) → V_X11_lanesAt R 4 [(0, kR 201), (1, kI a), (2, kI (n + 0)), (3, kI (b + 1))] μ) ∧ (¬ ((μ 204 ((40 + (8 * a)) + b)) ≤ 0) → V_X11_lanesAt R 4 [(0, kR 201), (1, kI a), (2, kI (n + 1)), (3, kI (b + 1))] μ))) : V_X11_lanesAt R 4 [(0, kR 201), (1, kI a), (2, kI n), (3, kI b)] μ := by
  refine vm_step2 mt_X11_lanesAt ok_X11_lanesAt [(4, [0, 1, 2, 3])] 1000 ?_
  show (r32 b ∧ r32 (8 : Int)) ∧ (((8 : Int) ≤ b) → R μ (some (kI n))) ∧ (¬ ((8 : Int) ≤ b) → isC 201 11 ∧ inA 204 0 ((40 + (8 * a)) + b) ∧ r32 (μ 204 ((40 + (8 * a)) + b)) ∧ (((μ 204 ((40 + (8 * a)) + b)) ≤ 0) → V_X11_lanesAt R 4 [(0, kR 201), (1, kI a), (2, kI (n + 0)), (3, kI (b + 1))] μ) ∧ (¬ ((μ 204 ((40 + (8 * a)) + b)) ≤ 0) → V_X11_lanesAt R 4 [(0, kR 201), (1, kI a), (2, kI (n + 1)), (3, kI (b + 1))] μ))
  exact ⟨⟨H.1, by unfold r32; omega⟩, fun hc2 => (H.2.1 hc2), fun hc2 => ⟨c_201, ⟨isArr.in a_204 (H.2.2 hc2).1.1 (H.2.2 hc2).1.2, ⟨(H.2.2 hc2).2.1, fun hc1 => ((H.2.2 hc2).2.2.1 hc1), fun hc1 => ((H.2.2 hc2).2.2.2 hc1)⟩⟩⟩⟩
theorem body_X11_lanesAt {o a : Int} {μ : Mem} {R : Mem → Option AV → Prop} (h : P_X11_lanesAt o a μ) (hR : R μ (some (kI (F_X11_lanesAt o a μ)))) : V_X11_lanesAt R 0 [(0, kR o), (1, kI a)] μ := by
  obtain ⟨rfl, ha, hc⟩ := h
  have key := up_ind (P := fun b => V_X11_lanesAt R 4 [(0, kR 201), (1, kI a), (2, kI (sm (fun b => if μ 204 (40 + 8 * a + b) ≤ 0 then 0 else 1) b)), (3, kI b)] μ) (lo := 0) (hi := 8) ?_ ?_
  · exact vc_X11_lanesAt_0 (key 0 (by omega) (by omega))
  · intro b b0 b1 ih
    have c := hc (8 * a + b) (by omega) (by omega)
    rw [show 40 + (8 * a + b) = 40 + 8 * a + b by omega] at c
    rw [sm_s b0] at ih
    refine vc_X11_lanesAt_4 ⟨rr (by omega), fun q => absurd q (by omega), fun _ => ⟨by omega, rr (by omega), fun q => ?_, fun q => ?_⟩⟩
    · rw [if_pos q] at ih; exact ih
    · rw [if_neg q] at ih; exact ih
  · exact vc_X11_lanesAt_4 ⟨rr (by omega), fun _ => hR, fun q => absurd (Int.le_refl _) q⟩
theorem ct_X11_lanesAt : Ct mX11_lanesAt 0 0 0 0 (nrmS S_X11_lanesAt) := by
  refine ct_vm (own := RX11) (by decide +kernel) rfl ?_ ?_
  · intro as μ Q hS
    unfold S_X11_lanesAt at hS
    split at hS
    · exact Nat.le_of_ble_eq_true rfl
    · exact hS.elim
  · intro as μ R hS
    unfold S_X11_lanesAt at hS
    split at hS
    · exact body_X11_lanesAt hS.1 hS.2
    · exact hS.elim
