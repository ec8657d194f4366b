/-! the model: nights -/
theorem mv_add {v : TV} (ok : TVok v) {h j a : Int} (a0 : 0 ≤ a) (a1 : a < 8) (j0 : 0 ≤ j) (j1 : j < 8) : (if v 7 (8 * a + j) = 0 then 0 else h * v 3 0) + (if j = a then h * (12 - v 3 0 * lanesV v a) else 0) = mvV v j a * h := by
  have hs := ok.2.2.2.2.2.2.1 a j a0 a1 j0 j1
  unfold mvV
  by_cases e : j = a
  · subst e
    rw [if_pos rfl, if_pos rfl, if_pos hs.2.1, Int.mul_comm, Int.zero_add]
  · rw [if_neg e, if_neg e, ← hs.1]
    by_cases z : v 7 (8 * a + j) = 0
    · rw [if_pos z, if_pos z, Int.zero_mul]; omega
    · rw [if_neg z, if_neg z, Int.mul_comm]; omega
theorem nextP_max {v : TV} {f : Int → Int} {n : Int} (n0 : 0 ≤ n) : nextP v f (n + 1) = if f (maxAt (fun i => f i * v 5 i) n) * v 5 (maxAt (fun i => f i * v 5 i) n) ≤ 0 then (-1, 0) else (maxAt (fun i => f i * v 5 i) n, f (maxAt (fun i => f i * v 5 i) n) * v 5 (maxAt (fun i => f i * v 5 i) n)) := by
  refine nat_ind (P := fun n => nextP v f (n + 1) = if f (maxAt (fun i => f i * v 5 i) n) * v 5 (maxAt (fun i => f i * v 5 i) n) ≤ 0 then (-1, 0) else (maxAt (fun i => f i * v 5 i) n, f (maxAt (fun i => f i * v 5 i) n) * v 5 (maxAt (fun i => f i * v 5 i) n))) ?_ (fun i i0 ih => ?_) n n0
  · rw [nextP_s (n := 0) (by omega)]
    show (if (0 : Int) < f 0 * v 5 0 then ((0 : Int), f 0 * v 5 0) else (-1, 0)) = if f 0 * v 5 0 ≤ 0 then (-1, 0) else (0, f 0 * v 5 0)
    by_cases c : 0 < f 0 * v 5 0
    · rw [if_pos c, if_neg (by omega)]
    · rw [if_neg c, if_pos (by omega)]
  · rw [nextP_s (by omega), ih, maxAt_s i0]
    generalize maxAt (fun i => f i * v 5 i) i = M
    show (if (if f M * v 5 M ≤ 0 then ((-1 : Int), (0 : Int)) else (M, f M * v 5 M)).2 < f (i + 1) * v 5 (i + 1) then (i + 1, f (i + 1) * v 5 (i + 1)) else if f M * v 5 M ≤ 0 then (-1, 0) else (M, f M * v 5 M)) = if f (if f M * v 5 M < f (i + 1) * v 5 (i + 1) then i + 1 else M) * v 5 (if f M * v 5 M < f (i + 1) * v 5 (i + 1) then i + 1 else M) ≤ 0 then (-1, 0) else (if f M * v 5 M < f (i + 1) * v 5 (i + 1) then i + 1 else M, f (if f M * v 5 M < f (i + 1) * v 5 (i + 1) then i + 1 else M) * v 5 (if f M * v 5 M < f (i + 1) * v 5 (i + 1) then i + 1 else M))
    by_cases c : f M * v 5 M ≤ 0
    · by_cases d : f M * v 5 M < f (i + 1) * v 5 (i + 1)
      · rw [if_pos c, if_pos d]
        show (if (0 : Int) < f (i + 1) * v 5 (i + 1) then (i + 1, f (i + 1) * v 5 (i + 1)) else (-1, 0)) = _
        by_cases e : 0 < f (i + 1) * v 5 (i + 1)
        · rw [if_pos e, if_neg (by omega)]
        · rw [if_neg e, if_pos (by omega)]
      · rw [if_pos c, if_neg d]
        show (if (0 : Int) < f (i + 1) * v 5 (i + 1) then (i + 1, f (i + 1) * v 5 (i + 1)) else (-1, 0)) = _
        rw [if_neg (by omega), if_pos c]
    · rw [if_neg c]
      show (if f M * v 5 M < f (i + 1) * v 5 (i + 1) then (i + 1, f (i + 1) * v 5 (i + 1)) else (M, f M * v 5 M)) = _
      by_cases d : f M * v 5 M < f (i + 1) * v 5 (i + 1)
      · rw [if_pos d, if_pos d, if_neg (by omega)]
      · rw [if_neg d, if_neg d, if_neg c]
def P_X11_aNight (o : Int) (μ : Mem) : Prop := o = 201 ∧ MB μ
def Q_X11_aNight (_ : Int) (μ μ' : Mem) : Prop := (∀ a : Int, 0 ≤ a → a < vm μ 0 0 → μ' 230 a = nightV (vm μ) (μ 230) a) ∧ ∀ z : Int, z ≠ 230 → z ≠ 231 → μ' z = μ z
def S_X11_aNight : S0t := fun as μ Q => match as with
  | [(2, x0)] => P_X11_aNight x0 μ ∧ ∀ (μ' : Mem) , Q_X11_aNight x0 μ μ'  → Q μ' none
  | _ => False
theorem mono_X11_aNight : Mono S_X11_aNight := by
  intro as μ Q Q' h hS
  unfold S_X11_aNight at hS ⊢
  split at hS
  · exact ⟨hS.1, fun μ' q => h _ _ (hS.2 _ q)⟩
  · exact hS.elim
def iX11_aNight : Inf := (kX11_aNight, fTX11, pTX11, cTX11, lTX11, sTX11, [(209, 0, 1, 11, S_X11_of)])
theorem ok_X11_aNight : infOK iX11_aNight mX11_aNight RX11 1 21 := ⟨kkX11_aNight, fTX11_ok, pTX11_ok _, cTX11_ok, lTX11_ok, sTX11_ok, c_cons ⟨mX11_of, 0, 0, ct_X11_of, mmX11_of, vvX11_of, lkX11_209, ⟨by decide, by decide⟩, ⟨_, _, rfl⟩, by decide, mono_X11_of⟩ (c_nil)⟩
theorem mt_X11_aNight : mtOK [] RX11 1 21 := mt_nil
abbrev V_X11_aNight (R : Mem → Option AV → Prop) (pc : Nat) (lc : List (Nat × AV)) (μ : Mem) : Prop := VM mX11_aNight RX11 1 21 R pc lc [] μ
set_option maxRecDepth 20000 in
theorem vc_X11_aNight_0 {R : Mem → Option AV → Prop} {μ : Mem} (H : V_X11_aNight R 2 [(0, kR 201), (1, kI 0)] μ) : V_X11_aNight R 0 [(0, kR 201)] μ := by
  refine vm_step2 mt_X11_aNight ok_X11_aNight [(2, [0, 1]), (17, [0, 1]), (25, [0, 1]), (38, [0, 1, 2, 3]), (87, [0, 1, 2, 3]), (119, [0, 1]), (127, [0, 1]), (147, [0, 1])] 1000 ?_
  show V_X11_aNight R 2 [(0, kR 201), (1, kI 0)] μ
  exact H
set_option maxRecDepth 20000 in
theorem vc_X11_aNight_2 {R : Mem → Option AV → Prop} {a : Int} {μ : Mem} (H : r32 a ∧ r32 (μ 201 13) ∧ (((μ 201 13) ≤ a) → V_X11_aNight R 25 [(0, kR 201), (1, kI 0)] μ) ∧ (¬ ((μ 201 13) ≤ a) → (0 ≤ a ∧ a < 8) ∧ V_X11_aNight R 17 [(0, kR 201), (1, kI a)] (updm μ 231 a 0))) : V_X11_aNight R 2 [(0, kR 201), (1, kI a)] μ := by
  refine vm_step2 mt_X11_aNight ok_X11_aNight [(2, [0, 1]), (17, [0, 1]), (25, [0, 1]), (38, [0, 1, 2, 3]), (87, [0, 1, 2, 3]), (119, [0, 1]), (127, [0, 1]), (147, [0, 1])] 1000 ?_
  show isC 201 11 ∧ (r32 a ∧ r32 (μ 201 13)) ∧ (((μ 201 13) ≤ a) → V_X11_aNight R 25 [(0, kR 201), (1, kI 0)] μ) ∧ (¬ ((μ 201 13) ≤ a) → isC 201 11 ∧ inA 231 1 a ∧ V_X11_aNight R 17 [(0, kR 201), (1, kI a)] (updm μ 231 a 0))
  exact ⟨c_201, ⟨⟨H.1, H.2.1⟩, fun hc1 => (H.2.2.1 hc1), fun hc1 => ⟨c_201, ⟨isArr.in a_231 (H.2.2.2 hc1).1.1 (H.2.2.2 hc1).1.2, (H.2.2.2 hc1).2⟩⟩⟩⟩
set_option maxRecDepth 20000 in
theorem vc_X11_aNight_17 {R : Mem → Option AV → Prop} {a : Int} {μ : Mem} (H : V_X11_aNight R 2 [(0, kR 201), (1, kI (a + 1))] μ) : V_X11_aNight R 17 [(0, kR 201), (1, kI a)] μ := by
  refine vm_step2 mt_X11_aNight ok_X11_aNight [(2, [0, 1]), (17, [0, 1]), (25, [0, 1]), (38, [0, 1, 2, 3]), (87, [0, 1, 2, 3]), (119, [0, 1]), (127, [0, 1]), (147, [0, 1])] 1000 ?_
  show V_X11_aNight R 2 [(0, kR 201), (1, kI (a + 1))] μ
  exact H
set_option maxRecDepth 20000 in
theorem vc_X11_aNight_25 {R : Mem → Option AV → Prop} {a : Int} {μ : Mem} (H : r32 a ∧ r32 (μ 201 13) ∧ (((μ 201 13) ≤ a) → V_X11_aNight R 127 [(0, kR 201), (1, kI 0)] μ) ∧ (¬ ((μ 201 13) ≤ a) → V_X11_aNight R 38 [(0, kR 201), (1, kI a), (2, kI 12), (3, kI 0)] μ)) : V_X11_aNight R 25 [(0, kR 201), (1, kI a)] μ := by
  refine vm_step2 mt_X11_aNight ok_X11_aNight [(2, [0, 1]), (17, [0, 1]), (25, [0, 1]), (38, [0, 1, 2, 3]), (87, [0, 1, 2, 3]), (119, [0, 1]), (127, [0, 1]), (147, [0, 1])] 1000 ?_
  show isC 201 11 ∧ (r32 a ∧ r32 (μ 201 13)) ∧ (((μ 201 13) ≤ a) → V_X11_aNight R 127 [(0, kR 201), (1, kI 0)] μ) ∧ (¬ ((μ 201 13) ≤ a) → V_X11_aNight R 38 [(0, kR 201), (1, kI a), (2, kI 12), (3, kI 0)] μ)
  exact ⟨c_201, ⟨⟨H.1, H.2.1⟩, fun hc2 => (H.2.2.1 hc2), fun hc2 => (H.2.2.2 hc2)⟩⟩
set_option maxRecDepth 20000 in
theorem vc_X11_aNight_38 {R : Mem → Option AV → Prop} {a st b : Int} {μ : Mem} (H : r32 b ∧ r32 (μ 201 13) ∧ (((μ 201 13) ≤ b) → (0 ≤ a ∧ a < 8) ∧ (0 ≤ a ∧ a < 8) ∧ r32 st ∧ (0 ≤ a ∧ a < 8) ∧ V_X11_aNight R 119 [(0, kR 201), (1, kI a)] (updm μ 231 a ((μ 231 a) + ((μ 230 a) * st)))) ∧ (¬ ((μ 201 13) ≤ b) → P_X11_of 201 ((40 + (8 * a)) + b) μ ∧ r32 (F_X11_of 201 ((40 + (8 * a)) + b) μ) ∧ ((¬ (F_X11_of 201 ((40 + (8 * a)) + b) μ) = 0) → (0 ≤ b ∧ b < 8) ∧ (0 ≤ a ∧ a < 8) ∧ P_X11_of 201 3 μ ∧ r32 (F_X11_of 201 3 μ) ∧ (0 ≤ b ∧ b < 8) ∧ V_X11_aNight R 87 [(0, kR 201), (1, kI a), (2, kI st), (3, kI b)] (updm μ 231 b ((μ 231 b) + ((μ 230 a) * (F_X11_of 201 3 μ))))) ∧ (¬ (¬ (F_X11_of 201 ((40 + (8 * a)) + b) μ) = 0) → V_X11_aNight R 38 [(0, kR 201), (1, kI a), (2, kI st), (3, kI (b + 1))] μ))) : V_X11_aNight R 38 [(0, kR 201), (1, kI a), (2, kI st), (3, kI b)] μ := by
  refine vm_step2 mt_X11_aNight ok_X11_aNight [(2, [0, 1]), (17, [0, 1]), (25, [0, 1]), (38, [0, 1, 2, 3]), (87, [0, 1, 2, 3]), (119, [0, 1]), (127, [0, 1]), (147, [0, 1])] 1000 ?_
  show isC 201 11 ∧ (r32 b ∧ r32 (μ 201 13)) ∧ (((μ 201 13) ≤ b) → isC 201 11 ∧ inA 231 1 a ∧ isC 201 11 ∧ inA 230 1 a ∧ r32 st ∧ inA 231 1 a ∧ V_X11_aNight R 119 [(0, kR 201), (1, kI a)] (updm μ 231 a ((μ 231 a) + ((μ 230 a) * st)))) ∧ (¬ ((μ 201 13) ≤ b) → isC 201 11 ∧ P_X11_of 201 ((40 + (8 * a)) + b) μ ∧ r32 (F_X11_of 201 ((40 + (8 * a)) + b) μ) ∧ ((¬ (F_X11_of 201 ((40 + (8 * a)) + b) μ) = 0) → isC 201 11 ∧ inA 231 1 b ∧ isC 201 11 ∧ inA 230 1 a ∧ isC 201 11 ∧ P_X11_of 201 3 μ ∧ r32 (F_X11_of 201 3 μ) ∧ inA 231 1 b ∧ V_X11_aNight R 87 [(0, kR 201), (1, kI a), (2, kI st), (3, kI b)] (updm μ 231 b ((μ 231 b) + ((μ 230 a) * (F_X11_of 201 3 μ))))) ∧ (¬ (¬ (F_X11_of 201 ((40 + (8 * a)) + b) μ) = 0) → V_X11_aNight R 38 [(0, kR 201), (1, kI a), (2, kI st), (3, kI (b + 1))] μ))
  exact ⟨c_201, ⟨⟨H.1, H.2.1⟩, fun hc4 => ⟨c_201, ⟨isArr.in a_231 (H.2.2.1 hc4).1.1 (H.2.2.1 hc4).1.2, ⟨c_201, ⟨isArr.in a_230 (H.2.2.1 hc4).2.1.1 (H.2.2.1 hc4).2.1.2, ⟨(H.2.2.1 hc4).2.2.1, ⟨isArr.in a_231 (H.2.2.1 hc4).2.2.2.1.1 (H.2.2.1 hc4).2.2.2.1.2, (H.2.2.1 hc4).2.2.2.2⟩⟩⟩⟩⟩⟩, fun hc4 => ⟨c_201, (H.2.2.2 hc4).1, ⟨(H.2.2.2 hc4).2.1, fun hc3 => ⟨c_201, ⟨isArr.in a_231 ((H.2.2.2 hc4).2.2.1 hc3).1.1 ((H.2.2.2 hc4).2.2.1 hc3).1.2, ⟨c_201, ⟨isArr.in a_230 ((H.2.2.2 hc4).2.2.1 hc3).2.1.1 ((H.2.2.2 hc4).2.2.1 hc3).2.1.2, ⟨c_201, ((H.2.2.2 hc4).2.2.1 hc3).2.2.1, ⟨((H.2.2.2 hc4).2.2.1 hc3).2.2.2.1, ⟨isArr.in a_231 ((H.2.2.2 hc4).2.2.1 hc3).2.2.2.2.1.1 ((H.2.2.2 hc4).2.2.1 hc3).2.2.2.2.1.2, ((H.2.2.2 hc4).2.2.1 hc3).2.2.2.2.2⟩⟩⟩⟩⟩⟩⟩, fun hc3 => ((H.2.2.2 hc4).2.2.2 hc3)⟩⟩⟩⟩
set_option maxRecDepth 20000 in
theorem vc_X11_aNight_87 {R : Mem → Option AV → Prop} {a st b : Int} {μ : Mem} (H : P_X11_of 201 3 μ ∧ V_X11_aNight R 38 [(0, kR 201), (1, kI a), (2, kI (st - (F_X11_of 201 3 μ))), (3, kI (b + 1))] μ) : V_X11_aNight R 87 [(0, kR 201), (1, kI a), (2, kI st), (3, kI b)] μ := by
  refine vm_step2 mt_X11_aNight ok_X11_aNight [(2, [0, 1]), (17, [0, 1]), (25, [0, 1]), (38, [0, 1, 2, 3]), (87, [0, 1, 2, 3]), (119, [0, 1]), (127, [0, 1]), (147, [0, 1])] 1000 ?_
  show isC 201 11 ∧ P_X11_of 201 3 μ ∧ V_X11_aNight R 38 [(0, kR 201), (1, kI a), (2, kI (st - (F_X11_of 201 3 μ))), (3, kI (b + 1))] μ
  exact ⟨c_201, H.1, H.2⟩
set_option maxRecDepth 20000 in
theorem vc_X11_aNight_119 {R : Mem → Option AV → Prop} {a : Int} {μ : Mem} (H : V_X11_aNight R 25 [(0, kR 201), (1, kI (a + 1))] μ) : V_X11_aNight R 119 [(0, kR 201), (1, kI a)] μ := by
  refine vm_step2 mt_X11_aNight ok_X11_aNight [(2, [0, 1]), (17, [0, 1]), (25, [0, 1]), (38, [0, 1, 2, 3]), (87, [0, 1, 2, 3]), (119, [0, 1]), (127, [0, 1]), (147, [0, 1])] 1000 ?_
  show V_X11_aNight R 25 [(0, kR 201), (1, kI (a + 1))] μ
  exact H
set_option maxRecDepth 20000 in
theorem vc_X11_aNight_127 {R : Mem → Option AV → Prop} {a : Int} {μ : Mem} (H : r32 a ∧ r32 (μ 201 13) ∧ (((μ 201 13) ≤ a) → R μ none) ∧ (¬ ((μ 201 13) ≤ a) → (0 ≤ a ∧ a < 8) ∧ (0 ≤ a ∧ a < 8) ∧ V_X11_aNight R 147 [(0, kR 201), (1, kI a)] (updm μ 230 a (μ 231 a)))) : V_X11_aNight R 127 [(0, kR 201), (1, kI a)] μ := by
  refine vm_step2 mt_X11_aNight ok_X11_aNight [(2, [0, 1]), (17, [0, 1]), (25, [0, 1]), (38, [0, 1, 2, 3]), (87, [0, 1, 2, 3]), (119, [0, 1]), (127, [0, 1]), (147, [0, 1])] 1000 ?_
  show isC 201 11 ∧ (r32 a ∧ r32 (μ 201 13)) ∧ (((μ 201 13) ≤ a) → R μ none) ∧ (¬ ((μ 201 13) ≤ a) → isC 201 11 ∧ isC 201 11 ∧ inA 231 1 a ∧ inA 230 1 a ∧ V_X11_aNight R 147 [(0, kR 201), (1, kI a)] (updm μ 230 a (μ 231 a)))
  exact ⟨c_201, ⟨⟨H.1, H.2.1⟩, fun hc5 => (H.2.2.1 hc5), fun hc5 => ⟨c_201, ⟨c_201, ⟨isArr.in a_231 (H.2.2.2 hc5).1.1 (H.2.2.2 hc5).1.2, ⟨isArr.in a_230 (H.2.2.2 hc5).2.1.1 (H.2.2.2 hc5).2.1.2, (H.2.2.2 hc5).2.2⟩⟩⟩⟩⟩⟩
set_option maxRecDepth 20000 in
theorem vc_X11_aNight_147 {R : Mem → Option AV → Prop} {a : Int} {μ : Mem} (H : V_X11_aNight R 127 [(0, kR 201), (1, kI (a + 1))] μ) : V_X11_aNight R 147 [(0, kR 201), (1, kI a)] μ := by
  refine vm_step2 mt_X11_aNight ok_X11_aNight [(2, [0, 1]), (17, [0, 1]), (25, [0, 1]), (38, [0, 1, 2, 3]), (87, [0, 1, 2, 3]), (119, [0, 1]), (127, [0, 1]), (147, [0, 1])] 1000 ?_
  show V_X11_aNight R 127 [(0, kR 201), (1, kI (a + 1))] μ
  exact H
theorem body_X11_aNight {o : Int} {μ : Mem} {R : Mem → Option AV → Prop} (h : P_X11_aNight o μ) (hR : ∀ μ' : Mem, Q_X11_aNight o μ μ' → R μ' none) : V_X11_aNight R 0 [(0, kR o)] μ := by
  obtain ⟨rfl, hb⟩ := h
  have ok := hb.v
  have hp := hb.p
  have hpe := hb.2.1
  rw [hpe] at hp
  obtain ⟨p, hpp⟩ : ∃ p : Int, p = vm μ 0 0 := ⟨_, rfl⟩
  rw [← hpp] at hpe hp
  have p3 : ∀ a : Int, 0 ≤ a → a ≤ p → ∀ m : Mem, (∀ z : Int, z ≠ 230 → z ≠ 231 → m z = μ z) → (∀ j : Int, 0 ≤ j → j < p → m 231 j = nightV (vm μ) (μ 230) j) → (∀ j : Int, 0 ≤ j → j < a → m 230 j = nightV (vm μ) (μ 230) j) → V_X11_aNight R 127 [(0, kR 201), (1, kI a)] m := by
    refine up_ind (P := fun a => ∀ m : Mem, (∀ z : Int, z ≠ 230 → z ≠ 231 → m z = μ z) → (∀ j : Int, 0 ≤ j → j < p → m 231 j = nightV (vm μ) (μ 230) j) → (∀ j : Int, 0 ≤ j → j < a → m 230 j = nightV (vm μ) (μ 230) j) → V_X11_aNight R 127 [(0, kR 201), (1, kI a)] m) ?_ ?_
    · intro a a0 a1 ih m hf hn hd
      have e13 : m 201 13 = p := by rw [hf 201 (by omega) (by omega), hpe]
      refine vc_X11_aNight_127 ?_
      rw [e13, hn a a0 a1]
      refine ⟨rr (by omega), rr (by omega), fun c => absurd c (by omega), fun _ => ⟨by omega, by omega, vc_X11_aNight_147 (ih _ (fun z z0 z1 => by rw [ru_ne z0, hf z z0 z1]) (fun j j0 j1 => by rw [ru_ne (by omega), hn j j0 j1]) (fun j j0 j1 => ?_))⟩⟩
      rw [ru_eq]
      by_cases e : j = a
      · rw [e, r1_eq]
      · rw [r1_ne e]; exact hd j j0 (by omega)
    · intro m hf hn hd
      have e13 : m 201 13 = p := by rw [hf 201 (by omega) (by omega), hpe]
      refine vc_X11_aNight_127 ?_
      rw [e13]
      refine ⟨rr (by omega), rr (by omega), fun _ => hR m ⟨?_, hf⟩, fun c => absurd (Int.le_refl _) c⟩
      rw [← hpp]
      exact hd
  have p2 : ∀ a : Int, 0 ≤ a → a ≤ p → ∀ m : Mem, (∀ z : Int, z ≠ 231 → m z = μ z) → (∀ j : Int, 0 ≤ j → j < p → m 231 j = sm (fun i => mvV (vm μ) j i * μ 230 i) a) → V_X11_aNight R 25 [(0, kR 201), (1, kI a)] m := by
    refine up_ind (P := fun a => ∀ m : Mem, (∀ z : Int, z ≠ 231 → m z = μ z) → (∀ j : Int, 0 ≤ j → j < p → m 231 j = sm (fun i => mvV (vm μ) j i * μ 230 i) a) → V_X11_aNight R 25 [(0, kR 201), (1, kI a)] m) ?_ ?_
    · intro a a0 a1 ih m hf hs
      have e13 : m 201 13 = p := by rw [hf 201 (by omega), hpe]
      have pb : ∀ b : Int, 0 ≤ b → b ≤ p → ∀ m : Mem, (∀ z : Int, z ≠ 231 → m z = μ z) → (∀ j : Int, 0 ≤ j → j < p → m 231 j = sm (fun i => mvV (vm μ) j i * μ 230 i) a + (if j < b then (if vm μ 7 (8 * a + j) = 0 then 0 else μ 230 a * vm μ 3 0) else 0)) → V_X11_aNight R 38 [(0, kR 201), (1, kI a), (2, kI (12 - vm μ 3 0 * sm (fun i => if vm μ 7 (8 * a + i) = 0 then 0 else 1) b)), (3, kI b)] m := by
        refine up_ind (P := fun b => ∀ m : Mem, (∀ z : Int, z ≠ 231 → m z = μ z) → (∀ j : Int, 0 ≤ j → j < p → m 231 j = sm (fun i => mvV (vm μ) j i * μ 230 i) a + (if j < b then (if vm μ 7 (8 * a + j) = 0 then 0 else μ 230 a * vm μ 3 0) else 0)) → V_X11_aNight R 38 [(0, kR 201), (1, kI a), (2, kI (12 - vm μ 3 0 * sm (fun i => if vm μ 7 (8 * a + i) = 0 then 0 else 1) b)), (3, kI b)] m) ?_ ?_
        · intro b b0 b1 ihb m hf hs
          have e13 : m 201 13 = p := by rw [hf 201 (by omega), hpe]
          obtain ⟨mb, ev⟩ := MB_frame hb (hf 202 (by omega)) (by rw [hf 201 (by omega)]) (by rw [hf 201 (by omega)])
          have e3 : F_X11_of 201 3 m = vm μ 3 0 := by rw [← ev]; rfl
          have e230 : m 230 = μ 230 := hf 230 (by omega)
          have h3 := ok.2.2.1
          have h7 := vm7_nn ok (8 * a + b)
          rw [sm_s b0] at ihb
          refine vc_X11_aNight_38 ?_
          rw [of_7' a0 (by omega) b0 (by omega), e13, ev, e3, e230]
          refine ⟨rr (by omega), rr (by omega), fun c => absurd c (by omega), fun _ => ⟨⟨rfl, mb.1, by omega, by omega⟩, rr (by omega), fun c => ⟨by omega, by omega, ⟨rfl, mb.1, by omega, by omega⟩, rr (by omega), by omega, ?_⟩, fun c => ?_⟩⟩
          · obtain ⟨m1, em1⟩ : ∃ x, x = updm m 231 b (m 231 b + μ 230 a * vm μ 3 0) := ⟨_, rfl⟩
            rw [← em1]
            have f1 : ∀ z : Int, z ≠ 231 → m1 z = μ z := fun z hz => by rw [em1, ru_ne hz, hf z hz]
            obtain ⟨mb1, ev1⟩ := MB_frame hb (f1 202 (by omega)) (by rw [f1 201 (by omega)]) (by rw [f1 201 (by omega)])
            have e31 : F_X11_of 201 3 m1 = vm μ 3 0 := by rw [← ev1]; rfl
            refine vc_X11_aNight_87 ⟨⟨rfl, mb1.1, by omega, by omega⟩, ?_⟩
            rw [e31]
            rw [if_neg c, Int.mul_add, Int.mul_one] at ihb
            have est : (12 : Int) - vm μ 3 0 * sm (fun i => if vm μ 7 (8 * a + i) = 0 then 0 else 1) b - vm μ 3 0 = 12 - (vm μ 3 0 * sm (fun i => if vm μ 7 (8 * a + i) = 0 then 0 else 1) b + vm μ 3 0) := by omega
            rw [est]
            refine ihb m1 f1 (fun j j0 j1 => ?_)
            have hj := hs j j0 j1
            rw [em1, ru_eq]
            by_cases e : j = b
            · subst e
              rw [if_neg (by omega)] at hj
              rw [r1_eq, hj, if_pos (show j < j + 1 by omega), if_neg c, Int.add_zero]
            · rw [r1_ne e, hj]
              by_cases l : j < b
              · rw [if_pos l, if_pos (show j < b + 1 by omega)]
              · rw [if_neg l, if_neg (show ¬ j < b + 1 by omega)]
          · have cz := Classical.not_not.mp c
            rw [if_pos cz, Int.add_zero] at ihb
            refine ihb m hf (fun j j0 j1 => ?_)
            rw [hs j j0 j1]
            by_cases e : j = b
            · subst e
              rw [if_neg (show ¬ j < j by omega), if_pos (show j < j + 1 by omega), if_pos cz]
            · by_cases l : j < b
              · rw [if_pos l, if_pos (show j < b + 1 by omega)]
              · rw [if_neg l, if_neg (show ¬ j < b + 1 by omega)]
        · intro m hf hs
          have e13 : m 201 13 = p := by rw [hf 201 (by omega), hpe]
          have e230 : m 230 = μ 230 := hf 230 (by omega)
          have el : sm (fun b => if vm μ 7 (8 * a + b) = 0 then 0 else 1) p = lanesV (vm μ) a := by rw [hpp]; rfl
          have lb := lanesV_bd ok (a := a)
          have h3 := ok.2.2.1
          have mb := mul_bd h3.1 h3.2 lb.1 lb.2
          refine vc_X11_aNight_38 ?_
          rw [e13, el, e230]
          refine ⟨rr (by omega), rr (by omega), fun _ => ⟨by omega, by omega, rr (by omega), by omega, vc_X11_aNight_119 (ih _ (fun z hz => by rw [ru_ne hz, hf z hz]) (fun j j0 j1 => ?_))⟩, fun c => absurd (Int.le_refl _) c⟩
          have hj := hs j j0 j1
          rw [if_pos j1] at hj
          have add := mv_add ok (h := μ 230 a) (j := j) a0 (by omega) j0 (by omega)
          rw [sm_s a0, ← add, ru_eq]
          by_cases e : j = a
          · rw [if_pos e]
            rw [e] at hj ⊢
            rw [r1_eq, hj]
            omega
          · rw [if_neg e, r1_ne e, hj]
            omega
      refine vc_X11_aNight_25 ?_
      rw [e13]
      refine ⟨rr (by omega), rr (by omega), fun c => absurd c (by omega), fun _ => ?_⟩
      have z0 := pb 0 (by omega) (by omega) m hf (fun j j0 j1 => by rw [hs j j0 j1, if_neg (by omega), Int.add_zero])
      have e0 : (12 : Int) - vm μ 3 0 * sm (fun i => if vm μ 7 (8 * a + i) = 0 then 0 else 1) 0 = 12 := by
        show (12 : Int) - vm μ 3 0 * 0 = 12
        omega
      rw [e0] at z0
      exact z0
    · intro m hf hs
      have e13 : m 201 13 = p := by rw [hf 201 (by omega), hpe]
      refine vc_X11_aNight_25 ?_
      rw [e13]
      refine ⟨rr (by omega), rr (by omega), fun _ => p3 0 (by omega) (by omega) m (fun z _ z1 => hf z z1) (fun j j0 j1 => ?_) (fun j j0 j1 => absurd j0 (by omega)), fun c => absurd (Int.le_refl _) c⟩
      rw [hs j j0 j1]
      unfold nightV
      rw [← hpp]
  have p1 : ∀ a : Int, 0 ≤ a → a ≤ p → ∀ m : Mem, (∀ z : Int, z ≠ 231 → m z = μ z) → (∀ j : Int, 0 ≤ j → j < a → m 231 j = 0) → V_X11_aNight R 2 [(0, kR 201), (1, kI a)] m := by
    refine up_ind (P := fun a => ∀ m : Mem, (∀ z : Int, z ≠ 231 → m z = μ z) → (∀ j : Int, 0 ≤ j → j < a → m 231 j = 0) → V_X11_aNight R 2 [(0, kR 201), (1, kI a)] m) ?_ ?_
    · intro a a0 a1 ih m hf hs
      have e13 : m 201 13 = p := by rw [hf 201 (by omega), hpe]
      refine vc_X11_aNight_2 ?_
      rw [e13]
      refine ⟨rr (by omega), rr (by omega), fun c => absurd c (by omega), fun _ => ⟨by omega, vc_X11_aNight_17 (ih _ (fun z hz => by rw [ru_ne hz, hf z hz]) (fun j j0 j1 => ?_))⟩⟩
      rw [ru_eq]
      by_cases e : j = a
      · rw [e, r1_eq]
      · rw [r1_ne e]; exact hs j j0 (by omega)
    · intro m hf hs
      have e13 : m 201 13 = p := by rw [hf 201 (by omega), hpe]
      refine vc_X11_aNight_2 ?_
      rw [e13]
      exact ⟨rr (by omega), rr (by omega), fun _ => p2 0 (by omega) (by omega) m hf (fun j j0 j1 => hs j j0 j1), fun c => absurd (Int.le_refl _) c⟩
  exact vc_X11_aNight_0 (p1 0 (by omega) (by omega) μ (fun z _ => rfl) (fun j j0 j1 => absurd j0 (by omega)))
theorem ct_X11_aNight : Ct mX11_aNight 1 21 0 0 (nrmS S_X11_aNight) := by
  refine ct_vm (own := RX11) (by decide +kernel) rfl ?_ ?_
  · intro as μ Q hS
    unfold S_X11_aNight at hS
    split at hS
    · exact Nat.le_of_ble_eq_true rfl
    · exact hS.elim
  · intro as μ R hS
    unfold S_X11_aNight at hS
    split at hS
    · exact body_X11_aNight hS.1 hS.2
    · exact hS.elim
def P_X11_reads (o : Int) (μ : Mem) : Prop := o = 201 ∧ MB μ
def Q_X11_reads (_ : Int) (μ μ' : Mem) : Prop := (∀ a : Int, 0 ≤ a → a < vm μ 0 0 → μ' 230 a = diaV (vm μ) (vm μ 12 0) a) ∧ ∀ z : Int, z ≠ 230 → z ≠ 231 → μ' z = μ z
def S_X11_reads : S0t := fun as μ Q => match as with
  | [(2, x0)] => P_X11_reads x0 μ ∧ ∀ (μ' : Mem) , Q_X11_reads x0 μ μ'  → Q μ' none
  | _ => False
theorem mono_X11_reads : Mono S_X11_reads := by
  intro as μ Q Q' h hS
  unfold S_X11_reads at hS ⊢
  split at hS
  · exact ⟨hS.1, fun μ' q => h _ _ (hS.2 _ q)⟩
  · exact hS.elim
def iX11_reads : Inf := (kX11_reads, fTX11, pTX11, cTX11, lTX11, sTX11, [(209, 0, 1, 11, S_X11_of), (440, 0, 0, 11, S_X11_aNight)])
theorem ok_X11_reads : infOK iX11_reads mX11_reads RX11 2 44 := ⟨kkX11_reads, fTX11_ok, pTX11_ok _, cTX11_ok, lTX11_ok, sTX11_ok, c_cons ⟨mX11_of, 0, 0, ct_X11_of, mmX11_of, vvX11_of, lkX11_209, ⟨by decide, by decide⟩, ⟨_, _, rfl⟩, by decide, mono_X11_of⟩ (c_cons ⟨mX11_aNight, 1, 21, ct_X11_aNight, mmX11_aNight, vvX11_aNight, lkX11_440, ⟨by decide, by decide⟩, ⟨_, _, rfl⟩, by decide, mono_X11_aNight⟩ (c_nil))⟩
theorem mt_X11_reads : mtOK [] RX11 2 44 := mt_nil
abbrev V_X11_reads (R : Mem → Option AV → Prop) (pc : Nat) (lc : List (Nat × AV)) (μ : Mem) : Prop := VM mX11_reads RX11 2 44 R pc lc [] μ
set_option maxRecDepth 20000 in
theorem vc_X11_reads_0 {R : Mem → Option AV → Prop} {μ : Mem} (H : V_X11_reads R 2 [(0, kR 201), (1, kI 0)] μ) : V_X11_reads R 0 [(0, kR 201)] μ := by
  refine vm_step2 mt_X11_reads ok_X11_reads [(2, [0, 1]), (25, [0, 1]), (33, [0, 1]), (52, [0, 1]), (64, [0, 1, 2, 3]), (104, [0, 1, 2, 3])] 1000 ?_
  show V_X11_reads R 2 [(0, kR 201), (1, kI 0)] μ
  exact H
set_option maxRecDepth 20000 in
theorem vc_X11_reads_2 {R : Mem → Option AV → Prop} {a : Int} {μ : Mem} (H : r32 a ∧ r32 (μ 201 13) ∧ (((μ 201 13) ≤ a) → V_X11_reads R 33 [(0, kR 201), (1, kI 0)] μ) ∧ (¬ ((μ 201 13) ≤ a) → P_X11_of 201 (10 + a) μ ∧ r32 (F_X11_of 201 (10 + a) μ) ∧ (0 ≤ a ∧ a < 8) ∧ V_X11_reads R 25 [(0, kR 201), (1, kI a)] (updm μ 230 a (F_X11_of 201 (10 + a) μ)))) : V_X11_reads R 2 [(0, kR 201), (1, kI a)] μ := by
  refine vm_step2 mt_X11_reads ok_X11_reads [(2, [0, 1]), (25, [0, 1]), (33, [0, 1]), (52, [0, 1]), (64, [0, 1, 2, 3]), (104, [0, 1, 2, 3])] 1000 ?_
  show isC 201 11 ∧ (r32 a ∧ r32 (μ 201 13)) ∧ (((μ 201 13) ≤ a) → V_X11_reads R 33 [(0, kR 201), (1, kI 0)] μ) ∧ (¬ ((μ 201 13) ≤ a) → isC 201 11 ∧ isC 201 11 ∧ P_X11_of 201 (10 + a) μ ∧ r32 (F_X11_of 201 (10 + a) μ) ∧ inA 230 1 a ∧ V_X11_reads R 25 [(0, kR 201), (1, kI a)] (updm μ 230 a (F_X11_of 201 (10 + a) μ)))
  exact ⟨c_201, ⟨⟨H.1, H.2.1⟩, fun hc1 => (H.2.2.1 hc1), fun hc1 => ⟨c_201, ⟨c_201, (H.2.2.2 hc1).1, ⟨(H.2.2.2 hc1).2.1, ⟨isArr.in a_230 (H.2.2.2 hc1).2.2.1.1 (H.2.2.2 hc1).2.2.1.2, (H.2.2.2 hc1).2.2.2⟩⟩⟩⟩⟩⟩
set_option maxRecDepth 20000 in
theorem vc_X11_reads_25 {R : Mem → Option AV → Prop} {a : Int} {μ : Mem} (H : V_X11_reads R 2 [(0, kR 201), (1, kI (a + 1))] μ) : V_X11_reads R 25 [(0, kR 201), (1, kI a)] μ := by
  refine vm_step2 mt_X11_reads ok_X11_reads [(2, [0, 1]), (25, [0, 1]), (33, [0, 1]), (52, [0, 1]), (64, [0, 1, 2, 3]), (104, [0, 1, 2, 3])] 1000 ?_
  show V_X11_reads R 2 [(0, kR 201), (1, kI (a + 1))] μ
  exact H
set_option maxRecDepth 20000 in
theorem vc_X11_reads_33 {R : Mem → Option AV → Prop} {a : Int} {μ : Mem} (H : P_X11_of 201 250 μ ∧ r32 a ∧ r32 (F_X11_of 201 250 μ) ∧ (((F_X11_of 201 250 μ) ≤ a) → R μ none) ∧ (¬ ((F_X11_of 201 250 μ) ≤ a) → r32 a ∧ ((a ≤ 0) → V_X11_reads R 52 [(0, kR 201), (1, kI a)] μ) ∧ (¬ (a ≤ 0) → P_X11_aNight 201 μ ∧ (∀ (μ2 : Mem), Q_X11_aNight 201 μ μ2 → V_X11_reads R 52 [(0, kR 201), (1, kI a)] μ2)))) : V_X11_reads R 33 [(0, kR 201), (1, kI a)] μ := by
  refine vm_step2 mt_X11_reads ok_X11_reads [(2, [0, 1]), (25, [0, 1]), (33, [0, 1]), (52, [0, 1]), (64, [0, 1, 2, 3]), (104, [0, 1, 2, 3])] 1000 ?_
  show isC 201 11 ∧ P_X11_of 201 250 μ ∧ (r32 a ∧ r32 (F_X11_of 201 250 μ)) ∧ (((F_X11_of 201 250 μ) ≤ a) → R μ none) ∧ (¬ ((F_X11_of 201 250 μ) ≤ a) → r32 a ∧ ((a ≤ 0) → V_X11_reads R 52 [(0, kR 201), (1, kI a)] μ) ∧ (¬ (a ≤ 0) → isC 201 11 ∧ P_X11_aNight 201 μ ∧ (∀ (μ2 : Mem), Q_X11_aNight 201 μ μ2 → V_X11_reads R 52 [(0, kR 201), (1, kI a)] μ2)))
  exact ⟨c_201, H.1, ⟨⟨H.2.1, H.2.2.1⟩, fun hc6 => (H.2.2.2.1 hc6), fun hc6 => ⟨(H.2.2.2.2 hc6).1, fun hc5 => ((H.2.2.2.2 hc6).2.1 hc5), fun hc5 => ⟨c_201, ((H.2.2.2.2 hc6).2.2 hc5).1, fun μ2 hq4 => (((H.2.2.2.2 hc6).2.2 hc5).2 μ2 hq4)⟩⟩⟩⟩
set_option maxRecDepth 20000 in
theorem vc_X11_reads_52 {R : Mem → Option AV → Prop} {a : Int} {μ : Mem} (H : P_X11_of 201 (251 + a) μ ∧ V_X11_reads R 64 [(0, kR 201), (1, kI a), (2, kI (F_X11_of 201 (251 + a) μ)), (3, kI 0)] μ) : V_X11_reads R 52 [(0, kR 201), (1, kI a)] μ := by
  refine vm_step2 mt_X11_reads ok_X11_reads [(2, [0, 1]), (25, [0, 1]), (33, [0, 1]), (52, [0, 1]), (64, [0, 1, 2, 3]), (104, [0, 1, 2, 3])] 1000 ?_
  show isC 201 11 ∧ P_X11_of 201 (251 + a) μ ∧ V_X11_reads R 64 [(0, kR 201), (1, kI a), (2, kI (F_X11_of 201 (251 + a) μ)), (3, kI 0)] μ
  exact ⟨c_201, H.1, H.2⟩
set_option maxRecDepth 20000 in
theorem vc_X11_reads_64 {R : Mem → Option AV → Prop} {a x b : Int} {μ : Mem} (H : r32 b ∧ r32 (μ 201 13) ∧ (((μ 201 13) ≤ b) → V_X11_reads R 33 [(0, kR 201), (1, kI (a + 1))] μ) ∧ (¬ ((μ 201 13) ≤ b) → (0 ≤ b ∧ b < 8) ∧ r32 b ∧ r32 x ∧ ((¬ b = x) → (0 ≤ b ∧ b < 8) ∧ V_X11_reads R 104 [(0, kR 201), (1, kI a), (2, kI x), (3, kI b)] (updm μ 230 b ((μ 230 b) * 12))) ∧ (¬ (¬ b = x) → P_X11_of 201 (20 + x) μ ∧ r32 (12 - (F_X11_of 201 (20 + x) μ)) ∧ (0 ≤ b ∧ b < 8) ∧ V_X11_reads R 104 [(0, kR 201), (1, kI a), (2, kI x), (3, kI b)] (updm μ 230 b ((μ 230 b) * (12 - (F_X11_of 201 (20 + x) μ))))))) : V_X11_reads R 64 [(0, kR 201), (1, kI a), (2, kI x), (3, kI b)] μ := by
  refine vm_step2 mt_X11_reads ok_X11_reads [(2, [0, 1]), (25, [0, 1]), (33, [0, 1]), (52, [0, 1]), (64, [0, 1, 2, 3]), (104, [0, 1, 2, 3])] 1000 ?_
  show isC 201 11 ∧ (r32 b ∧ r32 (μ 201 13)) ∧ (((μ 201 13) ≤ b) → V_X11_reads R 33 [(0, kR 201), (1, kI (a + 1))] μ) ∧ (¬ ((μ 201 13) ≤ b) → isC 201 11 ∧ inA 230 1 b ∧ (r32 b ∧ r32 x) ∧ ((¬ b = x) → inA 230 1 b ∧ V_X11_reads R 104 [(0, kR 201), (1, kI a), (2, kI x), (3, kI b)] (updm μ 230 b ((μ 230 b) * 12))) ∧ (¬ (¬ b = x) → isC 201 11 ∧ P_X11_of 201 (20 + x) μ ∧ r32 (12 - (F_X11_of 201 (20 + x) μ)) ∧ inA 230 1 b ∧ V_X11_reads R 104 [(0, kR 201), (1, kI a), (2, kI x), (3, kI b)] (updm μ 230 b ((μ 230 b) * (12 - (F_X11_of 201 (20 + x) μ))))))
  exact ⟨c_201, ⟨⟨H.1, H.2.1⟩, fun hc8 => (H.2.2.1 hc8), fun hc8 => ⟨c_201, ⟨isArr.in a_230 (H.2.2.2 hc8).1.1 (H.2.2.2 hc8).1.2, ⟨⟨(H.2.2.2 hc8).2.1, (H.2.2.2 hc8).2.2.1⟩, fun hc7 => ⟨isArr.in a_230 ((H.2.2.2 hc8).2.2.2.1 hc7).1.1 ((H.2.2.2 hc8).2.2.2.1 hc7).1.2, ((H.2.2.2 hc8).2.2.2.1 hc7).2⟩, fun hc7 => ⟨c_201, ((H.2.2.2 hc8).2.2.2.2 hc7).1, ⟨((H.2.2.2 hc8).2.2.2.2 hc7).2.1, ⟨isArr.in a_230 ((H.2.2.2 hc8).2.2.2.2 hc7).2.2.1.1 ((H.2.2.2 hc8).2.2.2.2 hc7).2.2.1.2, ((H.2.2.2 hc8).2.2.2.2 hc7).2.2.2⟩⟩⟩⟩⟩⟩⟩⟩
set_option maxRecDepth 20000 in
theorem vc_X11_reads_104 {R : Mem → Option AV → Prop} {a x b : Int} {μ : Mem} (H : V_X11_reads R 64 [(0, kR 201), (1, kI a), (2, kI x), (3, kI (b + 1))] μ) : V_X11_reads R 104 [(0, kR 201), (1, kI a), (2, kI x), (3, kI b)] μ := by
  refine vm_step2 mt_X11_reads ok_X11_reads [(2, [0, 1]), (25, [0, 1]), (33, [0, 1]), (52, [0, 1]), (64, [0, 1, 2, 3]), (104, [0, 1, 2, 3])] 1000 ?_
  show V_X11_reads R 64 [(0, kR 201), (1, kI a), (2, kI x), (3, kI (b + 1))] μ
  exact H
theorem body_X11_reads {o : Int} {μ : Mem} {R : Mem → Option AV → Prop} (h : P_X11_reads o μ) (hR : ∀ μ' : Mem, Q_X11_reads o μ μ' → R μ' none) : V_X11_reads R 0 [(0, kR o)] μ := by
  obtain ⟨rfl, hb⟩ := h
  have ok := hb.v
  have hp := hb.p
  have hpe := hb.2.1
  rw [hpe] at hp
  obtain ⟨p, hpp⟩ : ∃ p : Int, p = vm μ 0 0 := ⟨_, rfl⟩
  rw [← hpp] at hpe hp
  have h12 := ok.2.2.2.2.2.2.2.2.2.1
  have h13 := ok.2.2.2.2.2.2.2.2.2.2
  have fr : ∀ m : Mem, (∀ z : Int, z ≠ 230 → z ≠ 231 → m z = μ z) → MB m ∧ vm m = vm μ ∧ m 201 13 = p := fun m hf => by
    obtain ⟨mb, ev⟩ := MB_frame hb (hf 202 (by omega) (by omega)) (by rw [hf 201 (by omega) (by omega)]) (by rw [hf 201 (by omega) (by omega)])
    exact ⟨mb, ev, by rw [hf 201 (by omega) (by omega), hpe]⟩
  have p2 : ∀ d : Int, 0 ≤ d → d ≤ vm μ 12 0 → ∀ m : Mem, (∀ z : Int, z ≠ 230 → z ≠ 231 → m z = μ z) → (∀ j : Int, 0 ≤ j → j < p → m 230 j = diaV (vm μ) d j) → V_X11_reads R 33 [(0, kR 201), (1, kI d)] m := by
    refine up_ind (P := fun d => ∀ m : Mem, (∀ z : Int, z ≠ 230 → z ≠ 231 → m z = μ z) → (∀ j : Int, 0 ≤ j → j < p → m 230 j = diaV (vm μ) d j) → V_X11_reads R 33 [(0, kR 201), (1, kI d)] m) ?_ ?_
    · intro d d0 d1 ih m hf hs
      obtain ⟨mb, ev, e13⟩ := fr m hf
      have e250 : F_X11_of 201 250 m = vm μ 12 0 := by rw [← ev]; rfl
      have hx := h13 d d0 d1
      have day : ∀ (m : Mem) (g : Int → Int), (∀ z : Int, z ≠ 230 → z ≠ 231 → m z = μ z) → g = (if d ≤ 0 then diaV (vm μ) d else nightV (vm μ) (diaV (vm μ) d)) → (∀ j : Int, 0 ≤ j → j < p → m 230 j = g j) → V_X11_reads R 52 [(0, kR 201), (1, kI d)] m := by
        intro m g hf hg hs
        have hd : diaV (vm μ) (d + 1) = dayV (vm μ) (vm μ 13 d) g := by rw [diaV_s d0, hg]; rfl
        have pb : ∀ b : Int, 0 ≤ b → b ≤ p → ∀ m : Mem, (∀ z : Int, z ≠ 230 → z ≠ 231 → m z = μ z) → (∀ j : Int, 0 ≤ j → j < p → m 230 j = if j < b then diaV (vm μ) (d + 1) j else g j) → V_X11_reads R 64 [(0, kR 201), (1, kI d), (2, kI (vm μ 13 d)), (3, kI b)] m := by
          refine up_ind (P := fun b => ∀ m : Mem, (∀ z : Int, z ≠ 230 → z ≠ 231 → m z = μ z) → (∀ j : Int, 0 ≤ j → j < p → m 230 j = if j < b then diaV (vm μ) (d + 1) j else g j) → V_X11_reads R 64 [(0, kR 201), (1, kI d), (2, kI (vm μ 13 d)), (3, kI b)] m) ?_ ?_
          · intro b b0 b1 ihb m hf hs
            obtain ⟨mb, ev, e13⟩ := fr m hf
            have hb' := hs b b0 b1
            rw [if_neg (by omega)] at hb'
            have h5 := (ok.2.2.2.1 (vm μ 13 d) hx.1 (by omega)).2.1
            have put : ∀ x : Int, x = dayV (vm μ) (vm μ 13 d) g b → V_X11_reads R 104 [(0, kR 201), (1, kI d), (2, kI (vm μ 13 d)), (3, kI b)] (updm m 230 b x) := fun x hx => by
              refine vc_X11_reads_104 (ihb _ (fun z z0 z1 => by rw [ru_ne z0, hf z z0 z1]) (fun j j0 j1 => ?_))
              rw [ru_eq]
              by_cases e : j = b
              · subst e
                rw [r1_eq, if_pos (by omega), hd, hx]
              · rw [r1_ne e, hs j j0 j1]
                by_cases l : j < b
                · rw [if_pos l, if_pos (by omega)]
                · rw [if_neg l, if_neg (by omega)]
            refine vc_X11_reads_64 ?_
            rw [e13, of_5 hx.1 (by omega), ev, hb']
            refine ⟨rr (by omega), rr (by omega), fun c => absurd c (by omega), fun _ => ⟨by omega, rr (by omega), rr (by omega), fun c => ⟨by omega, put _ ?_⟩, fun c => ⟨⟨rfl, mb.1, by omega, by omega⟩, rr (by omega), by omega, put _ ?_⟩⟩⟩
            · unfold dayV
              rw [if_neg c]
            · unfold dayV
              rw [if_pos (Classical.not_not.mp c), Classical.not_not.mp c]
          · intro m hf hs
            obtain ⟨mb, ev, e13⟩ := fr m hf
            refine vc_X11_reads_64 ?_
            rw [e13]
            refine ⟨rr (by omega), rr (by omega), fun _ => ih m hf (fun j j0 j1 => ?_), fun c => absurd (Int.le_refl _) c⟩
            rw [hs j j0 j1, if_pos j1]
        obtain ⟨mb, ev, e13⟩ := fr m hf
        have e251 : F_X11_of 201 (251 + d) m = vm μ 13 d := by
          rw [← ev, v13_ m d0 (by rw [ev]; exact d1)]
          unfold F_X11_of
          rw [show m 201 12 + (251 + d) = m 201 12 + 251 + d by omega]
        refine vc_X11_reads_52 ⟨⟨rfl, mb.1, by omega, by omega⟩, ?_⟩
        rw [e251]
        exact pb 0 (by omega) (by omega) m hf (fun j j0 j1 => by rw [hs j j0 j1, if_neg (by omega)])
      refine vc_X11_reads_33 ?_
      rw [e250]
      refine ⟨⟨rfl, mb.1, by omega, by omega⟩, rr (by omega), rr (by omega), fun c => absurd c (by omega), fun _ => ⟨rr (by omega), fun c => day m _ hf rfl (fun j j0 j1 => by rw [if_pos c]; exact hs j j0 j1), fun c => ⟨⟨rfl, mb⟩, fun m2 q => day m2 _ (fun z z0 z1 => by rw [q.2 z z0 z1, hf z z0 z1]) rfl (fun j j0 j1 => ?_)⟩⟩⟩
      rw [if_neg c, q.1 j j0 (by rw [ev, ← hpp]; exact j1), ev]
      exact night_congr (fun b b0 b1 => hs b b0 (by omega)) j
    · intro m hf hs
      obtain ⟨mb, ev, e13⟩ := fr m hf
      have e250 : F_X11_of 201 250 m = vm μ 12 0 := by rw [← ev]; rfl
      refine vc_X11_reads_33 ?_
      rw [e250]
      refine ⟨⟨rfl, mb.1, by omega, by omega⟩, rr (by omega), rr (by omega), fun _ => hR m ⟨?_, hf⟩, fun c => absurd (Int.le_refl _) c⟩
      rw [← hpp]
      exact hs
  have p1 : ∀ a : Int, 0 ≤ a → a ≤ p → ∀ m : Mem, (∀ z : Int, z ≠ 230 → z ≠ 231 → m z = μ z) → (∀ j : Int, 0 ≤ j → j < a → m 230 j = vm μ 4 j) → V_X11_reads R 2 [(0, kR 201), (1, kI a)] m := by
    refine up_ind (P := fun a => ∀ m : Mem, (∀ z : Int, z ≠ 230 → z ≠ 231 → m z = μ z) → (∀ j : Int, 0 ≤ j → j < a → m 230 j = vm μ 4 j) → V_X11_reads R 2 [(0, kR 201), (1, kI a)] m) ?_ ?_
    · intro a a0 a1 ih m hf hs
      obtain ⟨mb, ev, e13⟩ := fr m hf
      have h4 := (ok.2.2.2.1 a a0 (by omega)).1
      refine vc_X11_reads_2 ?_
      rw [e13, of_4 a0 (by omega), ev]
      refine ⟨rr (by omega), rr (by omega), fun c => absurd c (by omega), fun _ => ⟨⟨rfl, mb.1, by omega, by omega⟩, rr (by omega), by omega, vc_X11_reads_25 (ih _ (fun z z0 z1 => by rw [ru_ne z0, hf z z0 z1]) (fun j j0 j1 => ?_))⟩⟩
      rw [ru_eq]
      by_cases e : j = a
      · rw [e, r1_eq]
      · rw [r1_ne e]; exact hs j j0 (by omega)
    · intro m hf hs
      obtain ⟨mb, ev, e13⟩ := fr m hf
      refine vc_X11_reads_2 ?_
      rw [e13]
      exact ⟨rr (by omega), rr (by omega), fun _ => p2 0 (by omega) h12.1 m hf (fun j j0 j1 => hs j j0 j1), fun c => absurd (Int.le_refl _) c⟩
  exact vc_X11_reads_0 (p1 0 (by omega) (by omega) μ (fun z _ _ => rfl) (fun j j0 j1 => absurd j0 (by omega)))
theorem ct_X11_reads : Ct mX11_reads 2 44 0 0 (nrmS S_X11_reads) := by
  refine ct_vm (own := RX11) (by decide +kernel) rfl ?_ ?_
  · intro as μ Q hS
    unfold S_X11_reads at hS
    split at hS
    · exact Nat.le_of_ble_eq_true rfl
    · exact hS.elim
  · intro as μ R hS
    unfold S_X11_reads at hS
    split at hS
    · exact body_X11_reads hS.1 hS.2
    · exact hS.elim
def P_X11_divisor (a b : Int) (_ : Mem) : Prop := (0 ≤ a ∧ a ≤ 9223372036854775807) ∧ 0 ≤ b ∧ b ≤ 9223372036854775807
def F_X11_divisor (a b : Int) (_ : Mem) : Int := gcdI a b
def S_X11_divisor : S0t := fun as μ Q => match as with
  | [(1, x0), (1, x1)] => P_X11_divisor x0 x1 μ ∧ Q μ (some (kL (F_X11_divisor x0 x1 μ)))
  | _ => False
theorem mono_X11_divisor : Mono S_X11_divisor := by
  intro as μ Q Q' h hS
  unfold S_X11_divisor at hS ⊢
  split at hS
  · exact ⟨hS.1, h _ _ hS.2⟩
  · exact hS.elim
def iX11_divisor : Inf := (kX11_divisor, fTX11, pTX11, cTX11, lTX11, sTX11, [])
theorem ok_X11_divisor : infOK iX11_divisor mX11_divisor RX11 0 0 := ⟨kkX11_divisor, fTX11_ok, pTX11_ok _, cTX11_ok, lTX11_ok, sTX11_ok, c_nil⟩
theorem mt_X11_divisor : mtOK [] RX11 0 0 := mt_nil
abbrev V_X11_divisor (R : Mem → Option AV → Prop) (pc : Nat) (lc : List (Nat × AV)) (μ : Mem) : Prop := VM mX11_divisor RX11 0 0 R pc lc [] μ
set_option maxRecDepth 20000 in
theorem vc_X11_divisor_0 {R : Mem → Option AV → Prop} {a b : Int} {μ : Mem} (H : V_X11_divisor R 6 [(4, kL a), (6, kL b)] μ) : V_X11_divisor R 0 [(0, kL a), (2, kL b)] μ := by
  refine vm_step2 mt_X11_divisor ok_X11_divisor [(6, [4, 6])] 1000 ?_
  show V_X11_divisor R 6 [(4, kL a), (6, kL b)] μ
  exact H
set_option maxRecDepth 20000 in
theorem vc_X11_divisor_6 {R : Mem → Option AV → Prop} {x y : Int} {μ : Mem} (H : r64 y ∧ ((y = (0 : Int)) → R μ (some (kL x))) ∧ (¬ (y = (0 : Int)) → (r64 x ∧ r64 y ∧ y ≠ 0) ∧ V_X11_divisor R 6 [(4, kL y), (6, kL (Int.tmod x y))] μ)) : V_X11_divisor R 6 [(4, kL x), (6, kL y)] μ := by
  refine vm_step2 mt_X11_divisor ok_X11_divisor [(6, [4, 6])] 1000 ?_
  show (r64 y ∧ r64 (0 : Int)) ∧ r32 (lcm3 y (0 : Int)) ∧ ((lcm3 y (0 : Int) = 0) → R μ (some (kL x))) ∧ (¬ (lcm3 y (0 : Int) = 0) → (r64 x ∧ r64 y ∧ y ≠ 0) ∧ V_X11_divisor R 6 [(4, kL y), (6, kL (Int.tmod x y))] μ)
  exact ⟨⟨H.1, by unfold r64; omega⟩, lcm3_r _ _, fun hc1 => (H.2.1 (lcm_eq.mp hc1)), fun hc1 => ⟨(H.2.2 (fun q => hc1 (lcm_eq.mpr q))).1, (H.2.2 (fun q => hc1 (lcm_eq.mpr q))).2⟩⟩
theorem body_X11_divisor {a b : Int} {μ : Mem} {R : Mem → Option AV → Prop} (h : P_X11_divisor a b μ) (hR : R μ (some (kL (F_X11_divisor a b μ)))) : V_X11_divisor R 0 [(0, kL a), (2, kL b)] μ := by
  have key : ∀ (k : Nat) (a b : Int), b ≤ k → (0 ≤ a ∧ a ≤ 9223372036854775807) → (0 ≤ b ∧ b ≤ 9223372036854775807) → R μ (some (kL (gcdI a b))) → V_X11_divisor R 6 [(4, kL a), (6, kL b)] μ := by
    intro k
    induction k with
    | zero =>
      intro a b hk ha hb hR
      have e : b = 0 := by omega
      subst e
      rw [gcdI_0 ha.1] at hR
      exact vc_X11_divisor_6 ⟨rl (by omega), fun _ => hR, fun c => absurd rfl c⟩
    | succ k ih =>
      intro a b hk ha hb hR
      by_cases e : b = 0
      · subst e
        rw [gcdI_0 ha.1] at hR
        exact vc_X11_divisor_6 ⟨rl (by omega), fun _ => hR, fun c => absurd rfl c⟩
      · have m0 := Int.emod_nonneg a e
        have m1 := Int.emod_lt_of_pos a (show 0 < b by omega)
        rw [gcdI_s ha.1 (by omega)] at hR
        refine vc_X11_divisor_6 ⟨rl (by omega), fun c => absurd c e, fun _ => ⟨⟨rl (by omega), rl (by omega), e⟩, ?_⟩⟩
        rw [Int.tmod_eq_emod_of_nonneg ha.1]
        exact ih b (a % b) (by omega) hb (by omega) hR
  exact vc_X11_divisor_0 (key b.toNat a b (by omega) h.1 h.2 hR)
theorem ct_X11_divisor : Ct mX11_divisor 0 0 0 0 (nrmS S_X11_divisor) := by
  refine ct_vm (own := RX11) (by decide +kernel) rfl ?_ ?_
  · intro as μ Q hS
    unfold S_X11_divisor at hS
    split at hS
    · exact Nat.le_of_ble_eq_true rfl
    · exact hS.elim
  · intro as μ R hS
    unfold S_X11_divisor at hS
    split at hS
    · exact body_X11_divisor hS.1 hS.2
    · exact hS.elim
def P_X11_likely (o n a k : Int) (μ : Mem) : Prop := o = 201 ∧ SOk (stM μ) ∧ r32 n ∧ r32 a ∧ r32 k
def Q_X11_likely (_ n a k : Int) (μ μ' : Mem) (r : Int) : Prop := AskM μ μ' ∧ r = onT (stM μ).1 n (-1) (likelyT a k)
def S_X11_likely : S0t := fun as μ Q => match as with
  | [(2, x0), (0, x1), (0, x2), (0, x3)] => P_X11_likely x0 x1 x2 x3 μ ∧ ∀ (μ' : Mem) (r : Int), Q_X11_likely x0 x1 x2 x3 μ μ' r → Q μ' (some (kL r))
  | _ => False
theorem mono_X11_likely : Mono S_X11_likely := by
  intro as μ Q Q' h hS
  unfold S_X11_likely at hS ⊢
  split at hS
  · exact ⟨hS.1, fun μ' r q => h _ _ (hS.2 _ _ q)⟩
  · exact hS.elim
def iX11_likely : Inf := (kX11_likely, fTX11, pTX11, cTX11, lTX11, sTX11, [(219, 0, 1, 11, S_X11_isTown), (231, 0, 1, 11, S_X11_isPlace), (162, 1, 3, 0, S_X11_isIn), (445, 0, 0, 11, S_X11_reads), (340, 1, 2, 0, S_X11_divisor)])
theorem ok_X11_likely : infOK iX11_likely mX11_likely RX11 3 67 := ⟨kkX11_likely, fTX11_ok, pTX11_ok _, cTX11_ok, lTX11_ok, sTX11_ok, c_cons ⟨mX11_isTown, 1, 22, ct_X11_isTown, mmX11_isTown, vvX11_isTown, lkX11_219, ⟨by decide, by decide⟩, ⟨_, _, rfl⟩, by decide, mono_X11_isTown⟩ (c_cons ⟨mX11_isPlace, 1, 22, ct_X11_isPlace, mmX11_isPlace, vvX11_isPlace, lkX11_231, ⟨by decide, by decide⟩, ⟨_, _, rfl⟩, by decide, mono_X11_isPlace⟩ (c_cons ⟨mX11_isIn, 0, 0, ct_X11_isIn, mmX11_isIn, stX11_isIn, lkX11_162, ⟨by decide, by decide⟩, mono_X11_isIn⟩ (c_cons ⟨mX11_reads, 2, 44, ct_X11_reads, mmX11_reads, vvX11_reads, lkX11_445, ⟨by decide, by decide⟩, ⟨_, _, rfl⟩, by decide, mono_X11_reads⟩ (c_cons ⟨mX11_divisor, 0, 0, ct_X11_divisor, mmX11_divisor, stX11_divisor, lkX11_340, ⟨by decide, by decide⟩, mono_X11_divisor⟩ (c_nil)))))⟩
theorem mt_X11_likely : mtOK [] RX11 3 67 := mt_nil
abbrev V_X11_likely (R : Mem → Option AV → Prop) (pc : Nat) (lc : List (Nat × AV)) (μ : Mem) : Prop := VM mX11_likely RX11 3 67 R pc lc [] μ
set_option maxRecDepth 20000 in
theorem vc_X11_likely_0 {R : Mem → Option AV → Prop} {n a k : Int} {μ : Mem} (H : P_X11_isTown 201 n μ ∧ (∀ (μ1 : Mem) (rv2 : Int), Q_X11_isTown 201 n μ μ1 rv2 → r32 rv2 ∧ ((rv2 = 0) → R μ1 (some (kL (-1)))) ∧ (¬ (rv2 = 0) → P_X11_isPlace 201 a μ1 ∧ r32 (F_X11_isPlace 201 a μ1) ∧ (((F_X11_isPlace 201 a μ1) = 0) → R μ1 (some (kL (-1)))) ∧ (¬ ((F_X11_isPlace 201 a μ1) = 0) → P_X11_isIn k 0 1 μ1 ∧ r32 (F_X11_isIn k 0 1 μ1) ∧ ((¬ (F_X11_isIn k 0 1 μ1) = 0) → P_X11_reads 201 μ1 ∧ (∀ (μ4 : Mem), Q_X11_reads 201 μ1 μ4 → V_X11_likely R 39 [(0, kR 201), (2, kI a), (3, kI k), (4, kL 0), (6, kI 0)] μ4)) ∧ (¬ (¬ (F_X11_isIn k 0 1 μ1) = 0) → R μ1 (some (kL (-1)))))))) : V_X11_likely R 0 [(0, kR 201), (1, kI n), (2, kI a), (3, kI k)] μ := by
  refine vm_step2 mt_X11_likely ok_X11_likely [(39, [0, 2, 3, 4, 6])] 1000 ?_
  show isC 201 11 ∧ P_X11_isTown 201 n μ ∧ (∀ (μ1 : Mem) (rv2 : Int), Q_X11_isTown 201 n μ μ1 rv2 → r32 rv2 ∧ ((rv2 = 0) → R μ1 (some (kL (-1)))) ∧ (¬ (rv2 = 0) → isC 201 11 ∧ P_X11_isPlace 201 a μ1 ∧ r32 (F_X11_isPlace 201 a μ1) ∧ (((F_X11_isPlace 201 a μ1) = 0) → R μ1 (some (kL (-1)))) ∧ (¬ ((F_X11_isPlace 201 a μ1) = 0) → P_X11_isIn k 0 1 μ1 ∧ r32 (F_X11_isIn k 0 1 μ1) ∧ ((¬ (F_X11_isIn k 0 1 μ1) = 0) → isC 201 11 ∧ P_X11_reads 201 μ1 ∧ (∀ (μ4 : Mem), Q_X11_reads 201 μ1 μ4 → V_X11_likely R 39 [(0, kR 201), (2, kI a), (3, kI k), (4, kL 0), (6, kI 0)] μ4)) ∧ (¬ (¬ (F_X11_isIn k 0 1 μ1) = 0) → R μ1 (some (kL (-1)))))))
  exact ⟨c_201, H.1, fun μ1 rv2 hq3 => ⟨(H.2 μ1 rv2 hq3).1, fun hc9 => ((H.2 μ1 rv2 hq3).2.1 hc9), fun hc9 => ⟨c_201, ((H.2 μ1 rv2 hq3).2.2 hc9).1, ⟨((H.2 μ1 rv2 hq3).2.2 hc9).2.1, fun hc8 => (((H.2 μ1 rv2 hq3).2.2 hc9).2.2.1 hc8), fun hc8 => ⟨(((H.2 μ1 rv2 hq3).2.2 hc9).2.2.2 hc8).1, ⟨(((H.2 μ1 rv2 hq3).2.2 hc9).2.2.2 hc8).2.1, fun hc7 => ⟨c_201, ((((H.2 μ1 rv2 hq3).2.2 hc9).2.2.2 hc8).2.2.1 hc7).1, fun μ4 hq6 => (((((H.2 μ1 rv2 hq3).2.2 hc9).2.2.2 hc8).2.2.1 hc7).2 μ4 hq6)⟩, fun hc7 => ((((H.2 μ1 rv2 hq3).2.2 hc9).2.2.2 hc8).2.2.2 hc7)⟩⟩⟩⟩⟩⟩
set_option maxRecDepth 20000 in
theorem vc_X11_likely_39 {R : Mem → Option AV → Prop} {a k sum b : Int} {μ : Mem} (H : r32 b ∧ r32 (μ 201 13) ∧ (((μ 201 13) ≤ b) → (0 ≤ a ∧ a < 8) ∧ r64 (μ 230 a) ∧ ((¬ (μ 230 a) = (0 : Int)) → (0 ≤ a ∧ a < 8) ∧ P_X11_divisor (μ 230 a) sum μ ∧ r32 k ∧ ((¬ k = 0) → (r64 sum ∧ r64 (F_X11_divisor (μ 230 a) sum μ) ∧ (F_X11_divisor (μ 230 a) sum μ) ≠ 0) ∧ R μ (some (kL (Int.tdiv sum (F_X11_divisor (μ 230 a) sum μ))))) ∧ (¬ (¬ k = 0) → (0 ≤ a ∧ a < 8) ∧ (r64 (μ 230 a) ∧ r64 (F_X11_divisor (μ 230 a) sum μ) ∧ (F_X11_divisor (μ 230 a) sum μ) ≠ 0) ∧ R μ (some (kL (Int.tdiv (μ 230 a) (F_X11_divisor (μ 230 a) sum μ)))))) ∧ (¬ (¬ (μ 230 a) = (0 : Int)) → r32 k ∧ R μ (some (kL k)))) ∧ (¬ ((μ 201 13) ≤ b) → (0 ≤ b ∧ b < 8) ∧ V_X11_likely R 39 [(0, kR 201), (2, kI a), (3, kI k), (4, kL (sum + (μ 230 b))), (6, kI (b + 1))] μ)) : V_X11_likely R 39 [(0, kR 201), (2, kI a), (3, kI k), (4, kL sum), (6, kI b)] μ := by
  refine vm_step2 mt_X11_likely ok_X11_likely [(39, [0, 2, 3, 4, 6])] 1000 ?_
  show isC 201 11 ∧ (r32 b ∧ r32 (μ 201 13)) ∧ (((μ 201 13) ≤ b) → isC 201 11 ∧ inA 230 1 a ∧ (r64 (μ 230 a) ∧ r64 (0 : Int)) ∧ r32 (lcm3 (μ 230 a) (0 : Int)) ∧ ((¬ lcm3 (μ 230 a) (0 : Int) = 0) → isC 201 11 ∧ inA 230 1 a ∧ P_X11_divisor (μ 230 a) sum μ ∧ r32 k ∧ ((¬ k = 0) → (r64 sum ∧ r64 (F_X11_divisor (μ 230 a) sum μ) ∧ (F_X11_divisor (μ 230 a) sum μ) ≠ 0) ∧ R μ (some (kL (Int.tdiv sum (F_X11_divisor (μ 230 a) sum μ))))) ∧ (¬ (¬ k = 0) → isC 201 11 ∧ inA 230 1 a ∧ (r64 (μ 230 a) ∧ r64 (F_X11_divisor (μ 230 a) sum μ) ∧ (F_X11_divisor (μ 230 a) sum μ) ≠ 0) ∧ R μ (some (kL (Int.tdiv (μ 230 a) (F_X11_divisor (μ 230 a) sum μ)))))) ∧ (¬ (¬ lcm3 (μ 230 a) (0 : Int) = 0) → r32 k ∧ R μ (some (kL k)))) ∧ (¬ ((μ 201 13) ≤ b) → isC 201 11 ∧ inA 230 1 b ∧ V_X11_likely R 39 [(0, kR 201), (2, kI a), (3, kI k), (4, kL (sum + (μ 230 b))), (6, kI (b + 1))] μ)
  exact ⟨c_201, ⟨⟨H.1, H.2.1⟩, fun hc12 => ⟨c_201, ⟨isArr.in a_230 (H.2.2.1 hc12).1.1 (H.2.2.1 hc12).1.2, ⟨⟨(H.2.2.1 hc12).2.1, by unfold r64; omega⟩, lcm3_r _ _, fun hc11 => ⟨c_201, ⟨isArr.in a_230 ((H.2.2.1 hc12).2.2.1 (lcm_ne.mp hc11)).1.1 ((H.2.2.1 hc12).2.2.1 (lcm_ne.mp hc11)).1.2, ⟨((H.2.2.1 hc12).2.2.1 (lcm_ne.mp hc11)).2.1, ⟨((H.2.2.1 hc12).2.2.1 (lcm_ne.mp hc11)).2.2.1, fun hc10 => ⟨(((H.2.2.1 hc12).2.2.1 (lcm_ne.mp hc11)).2.2.2.1 hc10).1, (((H.2.2.1 hc12).2.2.1 (lcm_ne.mp hc11)).2.2.2.1 hc10).2⟩, fun hc10 => ⟨c_201, ⟨isArr.in a_230 (((H.2.2.1 hc12).2.2.1 (lcm_ne.mp hc11)).2.2.2.2 hc10).1.1 (((H.2.2.1 hc12).2.2.1 (lcm_ne.mp hc11)).2.2.2.2 hc10).1.2, ⟨(((H.2.2.1 hc12).2.2.1 (lcm_ne.mp hc11)).2.2.2.2 hc10).2.1, (((H.2.2.1 hc12).2.2.1 (lcm_ne.mp hc11)).2.2.2.2 hc10).2.2⟩⟩⟩⟩⟩⟩⟩, fun hc11 => ⟨((H.2.2.1 hc12).2.2.2 (fun q => hc11 (lcm_ne.mpr q))).1, ((H.2.2.1 hc12).2.2.2 (fun q => hc11 (lcm_ne.mpr q))).2⟩⟩⟩⟩, fun hc12 => ⟨c_201, ⟨isArr.in a_230 (H.2.2.2 hc12).1.1 (H.2.2.2 hc12).1.2, (H.2.2.2 hc12).2⟩⟩⟩⟩
theorem body_X11_likely {o n a k : Int} {μ : Mem} {R : Mem → Option AV → Prop} (h : P_X11_likely o n a k μ) (hR : ∀ (μ' : Mem) (r : Int), Q_X11_likely o n a k μ μ' r → R μ' (some (kL r))) : V_X11_likely R 0 [(0, kR o), (1, kI n), (2, kI a), (3, kI k)] μ := by
  obtain ⟨rfl, hs, r_n, r_a, r_k⟩ := h
  refine vc_X11_likely_0 ⟨⟨rfl, hs, r_n⟩, fun m rv q => ?_⟩
  obtain ⟨q1, q2, q3, q4⟩ := q
  have ask : AskM μ m := fun z hz => q1 z (by omega)
  by_cases c : 0 ≤ n ∧ n < μ 202 0
  · obtain ⟨rfl, hb, hv, h12⟩ := q4 c
    have ok := hb.v
    have hp := hb.p
    have hpe := hb.2.1
    have fin : ∀ (m' : Mem) (x : Int), AskM m m' → x = (likelyT a k) (vm m) → R m' (some (kL x)) := fun m' x ha hx => hR m' x ⟨ask.trans ha, by rw [hx, onM_yes c, ← hv]⟩
    have a0 := AskM_0 m
    refine ⟨rr (by omega), fun q => absurd q (by omega), fun _ => ?_⟩
    have ir := isPlace_r (o := 201) (a := a) (μ := m)
    have ik := isIn_r (x := k) (lo := 0) (hi := 1) (μ := m)
    unfold likelyT at fin
    refine ⟨⟨rfl, hb, r_a⟩, rr (by omega), fun d => fin m _ a0 ?_, fun d => ⟨⟨r_k, rr (by omega), rr (by omega)⟩, rr (by omega), fun e => ?_, fun e => fin m _ a0 ?_⟩⟩
    · rw [if_neg (fun q => isPlace_1.mpr q.1 d)]
    · have da := isPlace_1.mp d
      have dk := isIn_1.mp e
      refine ⟨⟨rfl, hb⟩, fun m4 q => ?_⟩
      have h12 := ok.2.2.2.2.2.2.2.2.2.1
      have cal := hb.2.2.2.2.1
      obtain ⟨f, hf⟩ : ∃ f : Int → Int, f = diaV (vm m) (vm m 12 0) := ⟨_, rfl⟩
      have fb : ∀ i : Int, 0 ≤ i → i < vm m 0 0 → 0 ≤ f i ∧ f i ≤ 100000000000000000 := fun i i0 i1 => by rw [hf]; exact diaV_bd ok cal h12.1 h12.2 i0 i1
      unfold Q_X11_reads at q
      rw [← hf] at q fin
      have e13 : m4 201 13 = vm m 0 0 := by rw [q.2 201 (by omega) (by omega), hpe]
      have ask4 : AskM m m4 := fun z hz => q.2 z (by omega) (by omega)
      rw [hpe] at hp
      have sb := sm_le (f := f) (g := fun _ => 1 * 100000000000000000) (n := vm m 0 0) (fun i i0 i1 => by rw [Int.one_mul]; exact (fb i i0 i1).2) (by omega)
      rw [sm_mul (f := fun _ => 1) (by omega)] at sb
      have s8 : sm (fun _ => (1 : Int)) (vm m 0 0) = vm m 0 0 := nat_ind (P := fun n => sm (fun _ => (1 : Int)) n = n) rfl (fun i i0 ih => by rw [sm_s i0, ih]) _ (by omega)
      rw [s8] at sb
      have s0 := sm_nn (f := f) (n := vm m 0 0) (fun i i0 i1 => (fb i i0 i1).1) (by omega)
      have sz : f a ≤ sm f (vm m 0 0) := by
        have h1 := sm_le (f := fun i => if i = a then f a else 0) (g := f) (n := vm m 0 0) (fun i i0 i1 => by
          by_cases e : i = a
          · subst e; rw [if_pos rfl]; exact Int.le_refl _
          · rw [if_neg e]; exact (fb i i0 i1).1) (by omega)
        rw [sm_one (by omega), if_pos ⟨da.1, da.2⟩] at h1
        exact h1
      have fa := fb a da.1 da.2
      have key := up_ind (P := fun b => V_X11_likely R 39 [(0, kR 201), (2, kI a), (3, kI k), (4, kL (sm f b)), (6, kI b)] m4) (lo := 0) (hi := vm m 0 0) ?_ ?_
      · exact key 0 (by omega) (by omega)
      · intro b b0 b1 ih
        rw [sm_s b0] at ih
        refine vc_X11_likely_39 ?_
        rw [e13, q.1 b b0 b1]
        exact ⟨rr (by omega), rr (by omega), fun c => absurd c (by omega), fun _ => ⟨by omega, ih⟩⟩
      · have g0 := gcdI_bd (a := f a) (b := sm f (vm m 0 0))
        refine vc_X11_likely_39 ?_
        unfold F_X11_divisor
        rw [e13, q.1 a da.1 da.2]
        refine ⟨rr (by omega), rr (by omega), fun _ => ⟨by omega, rl (by omega), fun c => ⟨by omega, ⟨by omega, by omega⟩, rr (by omega), fun c2 => ⟨⟨rl (by omega), rl (by omega), by omega⟩, fin m4 _ ask4 ?_⟩, fun c2 => ⟨by omega, ⟨rl (by omega), rl (by omega), by omega⟩, fin m4 _ ask4 ?_⟩⟩, fun c => ⟨rr (by omega), fin m4 _ ask4 ?_⟩⟩, fun c => absurd (Int.le_refl _) c⟩
        · rw [if_pos ⟨da, dk⟩, if_neg (by omega), if_neg c2]
        · rw [if_pos ⟨da, dk⟩, if_neg (by omega), if_pos (Classical.not_not.mp c2)]
        · rw [if_pos ⟨da, dk⟩]
          have cz := Classical.not_not.mp c
          by_cases z : sm f (vm m 0 0) = 0
          · rw [if_pos z]
          · rw [if_neg z, cz]
            have eg : gcdI 0 (sm f (vm m 0 0)) = sm f (vm m 0 0) := by
              unfold gcdI
              rw [show (0 : Int).toNat = 0 from rfl, Nat.gcd_zero_left]
              omega
            rw [eg]
            by_cases k0 : k = 0
            · rw [if_pos k0, Int.zero_tdiv, k0]
            · rw [if_neg k0, Int.tdiv_self z]
              omega
    · rw [if_neg (fun q => e (isIn_1.mpr q.2))]
  · have e := q3 c
    subst e
    exact ⟨rr (by omega), fun _ => hR m _ ⟨ask, (onM_no c).symm⟩, fun q => absurd rfl q⟩
theorem ct_X11_likely : Ct mX11_likely 3 67 0 0 (nrmS S_X11_likely) := by
  refine ct_vm (own := RX11) (by decide +kernel) rfl ?_ ?_
  · intro as μ Q hS
    unfold S_X11_likely at hS
    split at hS
    · exact Nat.le_of_ble_eq_true rfl
    · exact hS.elim
  · intro as μ R hS
    unfold S_X11_likely at hS
    split at hS
    · exact body_X11_likely hS.1 hS.2
    · exact hS.elim
def P_X11_next (o n : Int) (μ : Mem) : Prop := o = 201 ∧ SOk (stM μ) ∧ r32 n
def Q_X11_next (_ n : Int) (μ μ' : Mem) (r : Int) : Prop := AskM μ μ' ∧ r = onT (stM μ).1 n (-1) (nextT)
def S_X11_next : S0t := fun as μ Q => match as with
  | [(2, x0), (0, x1)] => P_X11_next x0 x1 μ ∧ ∀ (μ' : Mem) (r : Int), Q_X11_next x0 x1 μ μ' r → Q μ' (some (kI r))
  | _ => False
theorem mono_X11_next : Mono S_X11_next := by
  intro as μ Q Q' h hS
  unfold S_X11_next at hS ⊢
  split at hS
  · exact ⟨hS.1, fun μ' r q => h _ _ (hS.2 _ _ q)⟩
  · exact hS.elim
def iX11_next : Inf := (kX11_next, fTX11, pTX11, cTX11, lTX11, sTX11, [(219, 0, 1, 11, S_X11_isTown), (445, 0, 0, 11, S_X11_reads), (209, 0, 1, 11, S_X11_of)])
theorem ok_X11_next : infOK iX11_next mX11_next RX11 3 67 := ⟨kkX11_next, fTX11_ok, pTX11_ok _, cTX11_ok, lTX11_ok, sTX11_ok, c_cons ⟨mX11_isTown, 1, 22, ct_X11_isTown, mmX11_isTown, vvX11_isTown, lkX11_219, ⟨by decide, by decide⟩, ⟨_, _, rfl⟩, by decide, mono_X11_isTown⟩ (c_cons ⟨mX11_reads, 2, 44, ct_X11_reads, mmX11_reads, vvX11_reads, lkX11_445, ⟨by decide, by decide⟩, ⟨_, _, rfl⟩, by decide, mono_X11_reads⟩ (c_cons ⟨mX11_of, 0, 0, ct_X11_of, mmX11_of, vvX11_of, lkX11_209, ⟨by decide, by decide⟩, ⟨_, _, rfl⟩, by decide, mono_X11_of⟩ (c_nil)))⟩
theorem mt_X11_next : mtOK [] RX11 3 67 := mt_nil
abbrev V_X11_next (R : Mem → Option AV → Prop) (pc : Nat) (lc : List (Nat × AV)) (μ : Mem) : Prop := VM mX11_next RX11 3 67 R pc lc [] μ
set_option maxRecDepth 20000 in
theorem vc_X11_next_0 {R : Mem → Option AV → Prop} {n : Int} {μ : Mem} (H : P_X11_isTown 201 n μ ∧ (∀ (μ1 : Mem) (rv2 : Int), Q_X11_isTown 201 n μ μ1 rv2 → r32 rv2 ∧ ((¬ rv2 = 0) → P_X11_reads 201 μ1 ∧ (∀ (μ4 : Mem), Q_X11_reads 201 μ1 μ4 → V_X11_next R 18 [(0, kR 201), (2, kI 0), (3, kI 1)] μ4)) ∧ (¬ (¬ rv2 = 0) → R μ1 (some (kI (-1)))))) : V_X11_next R 0 [(0, kR 201), (1, kI n)] μ := by
  refine vm_step2 mt_X11_next ok_X11_next [(18, [0, 2, 3])] 1000 ?_
  show isC 201 11 ∧ P_X11_isTown 201 n μ ∧ (∀ (μ1 : Mem) (rv2 : Int), Q_X11_isTown 201 n μ μ1 rv2 → r32 rv2 ∧ ((¬ rv2 = 0) → isC 201 11 ∧ P_X11_reads 201 μ1 ∧ (∀ (μ4 : Mem), Q_X11_reads 201 μ1 μ4 → V_X11_next R 18 [(0, kR 201), (2, kI 0), (3, kI 1)] μ4)) ∧ (¬ (¬ rv2 = 0) → R μ1 (some (kI (-1)))))
  exact ⟨c_201, H.1, fun μ1 rv2 hq3 => ⟨(H.2 μ1 rv2 hq3).1, fun hc7 => ⟨c_201, ((H.2 μ1 rv2 hq3).2.1 hc7).1, fun μ4 hq6 => (((H.2 μ1 rv2 hq3).2.1 hc7).2 μ4 hq6)⟩, fun hc7 => ((H.2 μ1 rv2 hq3).2.2 hc7)⟩⟩
set_option maxRecDepth 20000 in
theorem vc_X11_next_18 {R : Mem → Option AV → Prop} {best a : Int} {μ : Mem} (H : r32 a ∧ r32 (μ 201 13) ∧ (((μ 201 13) ≤ a) → (0 ≤ best ∧ best < 8) ∧ r64 (μ 230 best) ∧ ((¬ (μ 230 best) = (0 : Int)) → R μ (some (kI best))) ∧ (¬ (¬ (μ 230 best) = (0 : Int)) → R μ (some (kI (-1))))) ∧ (¬ ((μ 201 13) ≤ a) → (0 ≤ a ∧ a < 8) ∧ P_X11_of 201 (20 + a) μ ∧ r32 (F_X11_of 201 (20 + a) μ) ∧ (0 ≤ best ∧ best < 8) ∧ P_X11_of 201 (20 + best) μ ∧ r32 (F_X11_of 201 (20 + best) μ) ∧ r64 ((μ 230 a) * (F_X11_of 201 (20 + a) μ)) ∧ r64 ((μ 230 best) * (F_X11_of 201 (20 + best) μ)) ∧ ((((μ 230 a) * (F_X11_of 201 (20 + a) μ)) ≤ ((μ 230 best) * (F_X11_of 201 (20 + best) μ))) → V_X11_next R 18 [(0, kR 201), (2, kI best), (3, kI (a + 1))] μ) ∧ (¬ (((μ 230 a) * (F_X11_of 201 (20 + a) μ)) ≤ ((μ 230 best) * (F_X11_of 201 (20 + best) μ))) → V_X11_next R 18 [(0, kR 201), (2, kI a), (3, kI (a + 1))] μ))) : V_X11_next R 18 [(0, kR 201), (2, kI best), (3, kI a)] μ := by
  refine vm_step2 mt_X11_next ok_X11_next [(18, [0, 2, 3])] 1000 ?_
  show isC 201 11 ∧ (r32 a ∧ r32 (μ 201 13)) ∧ (((μ 201 13) ≤ a) → isC 201 11 ∧ inA 230 1 best ∧ (r64 (μ 230 best) ∧ r64 (0 : Int)) ∧ r32 (lcm3 (μ 230 best) (0 : Int)) ∧ ((¬ lcm3 (μ 230 best) (0 : Int) = 0) → R μ (some (kI best))) ∧ (¬ (¬ lcm3 (μ 230 best) (0 : Int) = 0) → R μ (some (kI (-1))))) ∧ (¬ ((μ 201 13) ≤ a) → isC 201 11 ∧ inA 230 1 a ∧ isC 201 11 ∧ P_X11_of 201 (20 + a) μ ∧ r32 (F_X11_of 201 (20 + a) μ) ∧ isC 201 11 ∧ inA 230 1 best ∧ isC 201 11 ∧ P_X11_of 201 (20 + best) μ ∧ r32 (F_X11_of 201 (20 + best) μ) ∧ (r64 ((μ 230 a) * (F_X11_of 201 (20 + a) μ)) ∧ r64 ((μ 230 best) * (F_X11_of 201 (20 + best) μ))) ∧ r32 (lcm3 ((μ 230 a) * (F_X11_of 201 (20 + a) μ)) ((μ 230 best) * (F_X11_of 201 (20 + best) μ))) ∧ ((lcm3 ((μ 230 a) * (F_X11_of 201 (20 + a) μ)) ((μ 230 best) * (F_X11_of 201 (20 + best) μ)) ≤ 0) → V_X11_next R 18 [(0, kR 201), (2, kI best), (3, kI (a + 1))] μ) ∧ (¬ (lcm3 ((μ 230 a) * (F_X11_of 201 (20 + a) μ)) ((μ 230 best) * (F_X11_of 201 (20 + best) μ)) ≤ 0) → V_X11_next R 18 [(0, kR 201), (2, kI a), (3, kI (a + 1))] μ))
  exact ⟨c_201, ⟨⟨H.1, H.2.1⟩, fun hc10 => ⟨c_201, ⟨isArr.in a_230 (H.2.2.1 hc10).1.1 (H.2.2.1 hc10).1.2, ⟨⟨(H.2.2.1 hc10).2.1, by unfold r64; omega⟩, lcm3_r _ _, fun hc8 => ((H.2.2.1 hc10).2.2.1 (lcm_ne.mp hc8)), fun hc8 => ((H.2.2.1 hc10).2.2.2 (fun q => hc8 (lcm_ne.mpr q)))⟩⟩⟩, fun hc10 => ⟨c_201, ⟨isArr.in a_230 (H.2.2.2 hc10).1.1 (H.2.2.2 hc10).1.2, ⟨c_201, (H.2.2.2 hc10).2.1, ⟨(H.2.2.2 hc10).2.2.1, ⟨c_201, ⟨isArr.in a_230 (H.2.2.2 hc10).2.2.2.1.1 (H.2.2.2 hc10).2.2.2.1.2, ⟨c_201, (H.2.2.2 hc10).2.2.2.2.1, ⟨(H.2.2.2 hc10).2.2.2.2.2.1, ⟨⟨(H.2.2.2 hc10).2.2.2.2.2.2.1, (H.2.2.2 hc10).2.2.2.2.2.2.2.1⟩, lcm3_r _ _, fun hc9 => ((H.2.2.2 hc10).2.2.2.2.2.2.2.2.1 (lcm_le.mp hc9)), fun hc9 => ((H.2.2.2 hc10).2.2.2.2.2.2.2.2.2 (fun q => hc9 (lcm_le.mpr q)))⟩⟩⟩⟩⟩⟩⟩⟩⟩⟩⟩
theorem body_X11_next {o n : Int} {μ : Mem} {R : Mem → Option AV → Prop} (h : P_X11_next o n μ) (hR : ∀ (μ' : Mem) (r : Int), Q_X11_next o n μ μ' r → R μ' (some (kI r))) : V_X11_next R 0 [(0, kR o), (1, kI n)] μ := by
  obtain ⟨rfl, hs, r_n⟩ := h
  refine vc_X11_next_0 ⟨⟨rfl, hs, r_n⟩, fun m rv q => ?_⟩
  obtain ⟨q1, q2, q3, q4⟩ := q
  have ask : AskM μ m := fun z hz => q1 z (by omega)
  by_cases c : 0 ≤ n ∧ n < μ 202 0
  · obtain ⟨rfl, hb, hv, h12⟩ := q4 c
    have ok := hb.v
    have hp := hb.p
    have hpe := hb.2.1
    have fin : ∀ (m' : Mem) (x : Int), AskM m m' → x = nextT (vm m) → R m' (some (kI x)) := fun m' x ha hx => hR m' x ⟨ask.trans ha, by rw [hx, onM_yes c, ← hv]⟩
    have a0 := AskM_0 m
    refine ⟨rr (by omega), fun _ => ?_, fun q => absurd (show ¬ (1 : Int) = 0 by omega) q⟩
    have h12 := ok.2.2.2.2.2.2.2.2.2.1
    have cal := hb.2.2.2.2.1
    refine ⟨⟨rfl, hb⟩, fun m4 q => ?_⟩
    unfold nextT at fin
    obtain ⟨f, hf⟩ : ∃ f : Int → Int, f = diaV (vm m) (vm m 12 0) := ⟨_, rfl⟩
    have fb : ∀ i : Int, 0 ≤ i → i < vm m 0 0 → 0 ≤ f i ∧ f i ≤ 100000000000000000 := fun i i0 i1 => by rw [hf]; exact diaV_bd ok cal h12.1 h12.2 i0 i1
    unfold Q_X11_reads at q
    rw [← hf] at q fin
    rw [hpe] at hp
    obtain ⟨mb, ev⟩ := MB_frame hb (q.2 202 (by omega) (by omega)) (by rw [q.2 201 (by omega) (by omega)]) (by rw [q.2 201 (by omega) (by omega)])
    have e13 : m4 201 13 = vm m 0 0 := by rw [q.2 201 (by omega) (by omega), hpe]
    have ask4 : AskM m m4 := fun z hz => q.2 z (by omega) (by omega)
    obtain ⟨p1, hp1⟩ : ∃ p1 : Int, vm m 0 0 = p1 + 1 := ⟨vm m 0 0 - 1, by omega⟩
    have gb : ∀ i : Int, 0 ≤ i → i < vm m 0 0 → 0 ≤ f i * vm m 5 i ∧ f i * vm m 5 i ≤ 100000000000000000 * 12 := fun i i0 i1 => by
      have h5 := (ok.2.2.2.1 i i0 (by omega)).2.1
      have := fb i i0 i1
      exact mul_bd this.1 this.2 (by omega) h5.2
    have key := up_ind (P := fun i => V_X11_next R 18 [(0, kR 201), (2, kI (maxAt (fun i => f i * vm m 5 i) i)), (3, kI (i + 1))] m4) (lo := 0) (hi := p1) ?_ ?_
    · exact key 0 (by omega) (by omega)
    · intro i i0 i1 ih
      have b := maxAt_bd (f := fun i => f i * vm m 5 i) i0
      rw [maxAt_s i0] at ih
      generalize maxAt (fun i => f i * vm m 5 i) i = M at b ih ⊢
      refine vc_X11_next_18 ?_
      rw [e13, of_5 (by omega) (by omega), of_5 (by omega) (by omega), ev, q.1 (i + 1) (by omega) (by omega), q.1 M (by omega) (by omega)]
      have g1 := gb (i + 1) (by omega) (by omega)
      have g2 := gb M (by omega) (by omega)
      have h51 := (ok.2.2.2.1 (i + 1) (by omega) (by omega)).2.1
      have h52 := (ok.2.2.2.1 M (by omega) (by omega)).2.1
      refine ⟨rr (by omega), rr (by omega), fun c => absurd c (by omega), fun _ => ⟨by omega, ⟨rfl, mb.1, by omega, by omega⟩, rr (by omega), by omega, ⟨rfl, mb.1, by omega, by omega⟩, rr (by omega), rl (by omega), rl (by omega), fun c => ?_, fun c => ?_⟩⟩
      · rw [if_neg (show ¬ f M * vm m 5 M < f (i + 1) * vm m 5 (i + 1) by omega)] at ih
        exact ih
      · rw [if_pos (show f M * vm m 5 M < f (i + 1) * vm m 5 (i + 1) by omega)] at ih
        exact ih
    · have b := maxAt_bd (f := fun i => f i * vm m 5 i) (n := p1) (by omega)
      have nm := nextP_max (v := vm m) (f := f) (n := p1) (by omega)
      rw [← hp1] at nm
      rw [nm] at fin
      generalize maxAt (fun i => f i * vm m 5 i) p1 = M at b fin ⊢
      have h5 := (ok.2.2.2.1 M (by omega) (by omega)).2.1
      have hM := fb M (by omega) (by omega)
      refine vc_X11_next_18 ?_
      rw [e13, q.1 M (by omega) (by omega)]
      refine ⟨rr (by omega), rr (by omega), fun _ => ⟨by omega, rl (by omega), fun c => fin m4 _ ask4 ?_, fun c => fin m4 _ ask4 ?_⟩, fun c => absurd (by omega) c⟩
      · have : 0 < f M * vm m 5 M := Int.mul_pos (by omega) (by omega)
        rw [if_neg (by omega)]
      · rw [Classical.not_not.mp c, Int.zero_mul, if_pos (by omega)]
  · have e := q3 c
    subst e
    exact ⟨rr (by omega), fun q => absurd rfl q, fun _ => hR m _ ⟨ask, (onM_no c).symm⟩⟩
theorem ct_X11_next : Ct mX11_next 3 67 0 0 (nrmS S_X11_next) := by
  refine ct_vm (own := RX11) (by decide +kernel) rfl ?_ ?_
  · intro as μ Q hS
    unfold S_X11_next at hS
    split at hS
    · exact Nat.le_of_ble_eq_true rfl
    · exact hS.elim
  · intro as μ R hS
    unfold S_X11_next at hS
    split at hS
    · exact body_X11_next hS.1 hS.2
    · exact hS.elim
def P_X11_goesBy (o d k : Int) (μ : Mem) : Prop := o = 201 ∧ MB μ ∧ (0 ≤ d ∧ d < k ∧ k ≤ 5) ∧ 0 ≤ μ 225 d ∧ μ 225 d < vm μ 0 0
def Q_X11_goesBy (_ d k : Int) (μ μ' : Mem) : Prop := (∀ a : Int, 0 ≤ a → a < vm μ 0 0 → μ' 223 (8 * (d + 1) + a) = lieS (vm μ) (μ 225 d) (fun b => μ 223 (8 * d + b)) a) ∧
  μ' 224 (d + 1) = μ 224 d + μ 223 (8 * d + μ 225 d) * vm μ 5 (μ 225 d) * 12 ^ (2 * (k - d) - 1).toNat ∧
  (∀ j : Int, j < 8 * (d + 1) → μ' 223 j = μ 223 j) ∧ (∀ j : Int, j ≠ d + 1 → μ' 224 j = μ 224 j) ∧ ∀ z : Int, z ≠ 223 → z ≠ 224 → μ' z = μ z
def S_X11_goesBy : S0t := fun as μ Q => match as with
  | [(2, x0), (0, x1), (0, x2)] => P_X11_goesBy x0 x1 x2 μ ∧ ∀ (μ' : Mem) , Q_X11_goesBy x0 x1 x2 μ μ'  → Q μ' none
  | _ => False
theorem mono_X11_goesBy : Mono S_X11_goesBy := by
  intro as μ Q Q' h hS
  unfold S_X11_goesBy at hS ⊢
  split at hS
  · exact ⟨hS.1, fun μ' q => h _ _ (hS.2 _ q)⟩
  · exact hS.elim
def iX11_goesBy : Inf := (kX11_goesBy, fTX11, pTX11, cTX11, lTX11, sTX11, [(209, 0, 1, 11, S_X11_of), (350, 1, 2, 0, S_X11_power)])
theorem ok_X11_goesBy : infOK iX11_goesBy mX11_goesBy RX11 1 24 := ⟨kkX11_goesBy, fTX11_ok, pTX11_ok _, cTX11_ok, lTX11_ok, sTX11_ok, c_cons ⟨mX11_of, 0, 0, ct_X11_of, mmX11_of, vvX11_of, lkX11_209, ⟨by decide, by decide⟩, ⟨_, _, rfl⟩, by decide, mono_X11_of⟩ (c_cons ⟨mX11_power, 0, 0, ct_X11_power, mmX11_power, stX11_power, lkX11_350, ⟨by decide, by decide⟩, mono_X11_power⟩ (c_nil))⟩
theorem mt_X11_goesBy : mtOK [] RX11 1 24 := mt_nil
abbrev V_X11_goesBy (R : Mem → Option AV → Prop) (pc : Nat) (lc : List (Nat × AV)) (μ : Mem) : Prop := VM mX11_goesBy RX11 1 24 R pc lc [] μ
set_option maxRecDepth 20000 in
theorem vc_X11_goesBy_0 {R : Mem → Option AV → Prop} {d k : Int} {μ : Mem} (H : (0 ≤ d ∧ d < 5) ∧ (0 ≤ d ∧ d < 6) ∧ (0 ≤ ((8 * d) + (μ 225 d)) ∧ ((8 * d) + (μ 225 d)) < 48) ∧ P_X11_of 201 (20 + (μ 225 d)) μ ∧ r32 (F_X11_of 201 (20 + (μ 225 d)) μ) ∧ P_X11_power 12 ((2 * (k - d)) - 1) μ ∧ (0 ≤ (d + 1) ∧ (d + 1) < 6) ∧ V_X11_goesBy R 56 [(0, kR 201), (1, kI d), (3, kI (μ 225 d))] (updm μ 224 (d + 1) ((μ 224 d) + (((μ 223 ((8 * d) + (μ 225 d))) * (F_X11_of 201 (20 + (μ 225 d)) μ)) * (F_X11_power 12 ((2 * (k - d)) - 1) μ))))) : V_X11_goesBy R 0 [(0, kR 201), (1, kI d), (2, kI k)] μ := by
  refine vm_step2 mt_X11_goesBy ok_X11_goesBy [(56, [0, 1, 3]), (59, [0, 1, 3, 4]), (84, [0, 1, 3, 4]), (93, [0, 1, 3, 4]), (147, [0, 1, 3, 4, 5, 7, 8]), (204, [0, 1, 3, 4, 5, 7, 8]), (244, [0, 1, 3, 4])] 1000 ?_
  show isC 201 11 ∧ inA 225 0 d ∧ isC 201 11 ∧ isC 201 11 ∧ inA 224 1 d ∧ isC 201 11 ∧ inA 223 1 ((8 * d) + (μ 225 d)) ∧ isC 201 11 ∧ P_X11_of 201 (20 + (μ 225 d)) μ ∧ r32 (F_X11_of 201 (20 + (μ 225 d)) μ) ∧ P_X11_power 12 ((2 * (k - d)) - 1) μ ∧ inA 224 1 (d + 1) ∧ V_X11_goesBy R 56 [(0, kR 201), (1, kI d), (3, kI (μ 225 d))] (updm μ 224 (d + 1) ((μ 224 d) + (((μ 223 ((8 * d) + (μ 225 d))) * (F_X11_of 201 (20 + (μ 225 d)) μ)) * (F_X11_power 12 ((2 * (k - d)) - 1) μ))))
  exact ⟨c_201, ⟨isArr.in a_225 H.1.1 H.1.2, ⟨c_201, ⟨c_201, ⟨isArr.in a_224 H.2.1.1 H.2.1.2, ⟨c_201, ⟨isArr.in a_223 H.2.2.1.1 H.2.2.1.2, ⟨c_201, H.2.2.2.1, ⟨H.2.2.2.2.1, ⟨H.2.2.2.2.2.1, ⟨isArr.in a_224 H.2.2.2.2.2.2.1.1 H.2.2.2.2.2.2.1.2, H.2.2.2.2.2.2.2⟩⟩⟩⟩⟩⟩⟩⟩⟩⟩⟩
set_option maxRecDepth 20000 in
theorem vc_X11_goesBy_56 {R : Mem → Option AV → Prop} {d x : Int} {μ : Mem} (H : V_X11_goesBy R 59 [(0, kR 201), (1, kI d), (3, kI x), (4, kI 0)] μ) : V_X11_goesBy R 56 [(0, kR 201), (1, kI d), (3, kI x)] μ := by
  refine vm_step2 mt_X11_goesBy ok_X11_goesBy [(56, [0, 1, 3]), (59, [0, 1, 3, 4]), (84, [0, 1, 3, 4]), (93, [0, 1, 3, 4]), (147, [0, 1, 3, 4, 5, 7, 8]), (204, [0, 1, 3, 4, 5, 7, 8]), (244, [0, 1, 3, 4])] 1000 ?_
  show V_X11_goesBy R 59 [(0, kR 201), (1, kI d), (3, kI x), (4, kI 0)] μ
  exact H
set_option maxRecDepth 20000 in
theorem vc_X11_goesBy_59 {R : Mem → Option AV → Prop} {d x a : Int} {μ : Mem} (H : r32 a ∧ r32 (μ 201 13) ∧ (((μ 201 13) ≤ a) → V_X11_goesBy R 93 [(0, kR 201), (1, kI d), (3, kI x), (4, kI 0)] μ) ∧ (¬ ((μ 201 13) ≤ a) → (0 ≤ (((8 * d) + 8) + a) ∧ (((8 * d) + 8) + a) < 48) ∧ V_X11_goesBy R 84 [(0, kR 201), (1, kI d), (3, kI x), (4, kI a)] (updm μ 223 (((8 * d) + 8) + a) 0))) : V_X11_goesBy R 59 [(0, kR 201), (1, kI d), (3, kI x), (4, kI a)] μ := by
  refine vm_step2 mt_X11_goesBy ok_X11_goesBy [(56, [0, 1, 3]), (59, [0, 1, 3, 4]), (84, [0, 1, 3, 4]), (93, [0, 1, 3, 4]), (147, [0, 1, 3, 4, 5, 7, 8]), (204, [0, 1, 3, 4, 5, 7, 8]), (244, [0, 1, 3, 4])] 1000 ?_
  show isC 201 11 ∧ (r32 a ∧ r32 (μ 201 13)) ∧ (((μ 201 13) ≤ a) → V_X11_goesBy R 93 [(0, kR 201), (1, kI d), (3, kI x), (4, kI 0)] μ) ∧ (¬ ((μ 201 13) ≤ a) → isC 201 11 ∧ inA 223 1 (((8 * d) + 8) + a) ∧ V_X11_goesBy R 84 [(0, kR 201), (1, kI d), (3, kI x), (4, kI a)] (updm μ 223 (((8 * d) + 8) + a) 0))
  exact ⟨c_201, ⟨⟨H.1, H.2.1⟩, fun hc1 => (H.2.2.1 hc1), fun hc1 => ⟨c_201, ⟨isArr.in a_223 (H.2.2.2 hc1).1.1 (H.2.2.2 hc1).1.2, (H.2.2.2 hc1).2⟩⟩⟩⟩
set_option maxRecDepth 20000 in
theorem vc_X11_goesBy_84 {R : Mem → Option AV → Prop} {d x a : Int} {μ : Mem} (H : V_X11_goesBy R 59 [(0, kR 201), (1, kI d), (3, kI x), (4, kI (a + 1))] μ) : V_X11_goesBy R 84 [(0, kR 201), (1, kI d), (3, kI x), (4, kI a)] μ := by
  refine vm_step2 mt_X11_goesBy ok_X11_goesBy [(56, [0, 1, 3]), (59, [0, 1, 3, 4]), (84, [0, 1, 3, 4]), (93, [0, 1, 3, 4]), (147, [0, 1, 3, 4, 5, 7, 8]), (204, [0, 1, 3, 4, 5, 7, 8]), (244, [0, 1, 3, 4])] 1000 ?_
  show V_X11_goesBy R 59 [(0, kR 201), (1, kI d), (3, kI x), (4, kI (a + 1))] μ
  exact H
set_option maxRecDepth 20000 in
theorem vc_X11_goesBy_93 {R : Mem → Option AV → Prop} {d x a : Int} {μ : Mem} (H : r32 a ∧ r32 (μ 201 13) ∧ (((μ 201 13) ≤ a) → R μ none) ∧ (¬ ((μ 201 13) ≤ a) → (0 ≤ ((8 * d) + a) ∧ ((8 * d) + a) < 48) ∧ r32 a ∧ r32 x ∧ ((¬ a = x) → V_X11_goesBy R 147 [(0, kR 201), (1, kI d), (3, kI x), (4, kI a), (5, kL ((μ 223 ((8 * d) + a)) * 12)), (7, kI 12), (8, kI 0)] μ) ∧ (¬ (¬ a = x) → P_X11_of 201 (20 + x) μ ∧ r32 (12 - (F_X11_of 201 (20 + x) μ)) ∧ V_X11_goesBy R 147 [(0, kR 201), (1, kI d), (3, kI x), (4, kI a), (5, kL ((μ 223 ((8 * d) + a)) * (12 - (F_X11_of 201 (20 + x) μ)))), (7, kI 12), (8, kI 0)] μ))) : V_X11_goesBy R 93 [(0, kR 201), (1, kI d), (3, kI x), (4, kI a)] μ := by
  refine vm_step2 mt_X11_goesBy ok_X11_goesBy [(56, [0, 1, 3]), (59, [0, 1, 3, 4]), (84, [0, 1, 3, 4]), (93, [0, 1, 3, 4]), (147, [0, 1, 3, 4, 5, 7, 8]), (204, [0, 1, 3, 4, 5, 7, 8]), (244, [0, 1, 3, 4])] 1000 ?_
  show isC 201 11 ∧ (r32 a ∧ r32 (μ 201 13)) ∧ (((μ 201 13) ≤ a) → R μ none) ∧ (¬ ((μ 201 13) ≤ a) → isC 201 11 ∧ inA 223 1 ((8 * d) + a) ∧ (r32 a ∧ r32 x) ∧ ((¬ a = x) → r32 ((12 : Int)) ∧ V_X11_goesBy R 147 [(0, kR 201), (1, kI d), (3, kI x), (4, kI a), (5, kL ((μ 223 ((8 * d) + a)) * 12)), (7, kI 12), (8, kI 0)] μ) ∧ (¬ (¬ a = x) → isC 201 11 ∧ P_X11_of 201 (20 + x) μ ∧ r32 (12 - (F_X11_of 201 (20 + x) μ)) ∧ V_X11_goesBy R 147 [(0, kR 201), (1, kI d), (3, kI x), (4, kI a), (5, kL ((μ 223 ((8 * d) + a)) * (12 - (F_X11_of 201 (20 + x) μ)))), (7, kI 12), (8, kI 0)] μ))
  exact ⟨c_201, ⟨⟨H.1, H.2.1⟩, fun hc3 => (H.2.2.1 hc3), fun hc3 => ⟨c_201, ⟨isArr.in a_223 (H.2.2.2 hc3).1.1 (H.2.2.2 hc3).1.2, ⟨⟨(H.2.2.2 hc3).2.1, (H.2.2.2 hc3).2.2.1⟩, fun hc2 => ⟨by unfold r32; omega, ((H.2.2.2 hc3).2.2.2.1 hc2)⟩, fun hc2 => ⟨c_201, ((H.2.2.2 hc3).2.2.2.2 hc2).1, ⟨((H.2.2.2 hc3).2.2.2.2 hc2).2.1, ((H.2.2.2 hc3).2.2.2.2 hc2).2.2⟩⟩⟩⟩⟩⟩⟩
set_option maxRecDepth 20000 in
theorem vc_X11_goesBy_147 {R : Mem → Option AV → Prop} {d x a h st b : Int} {μ : Mem} (H : r32 b ∧ r32 (μ 201 13) ∧ (((μ 201 13) ≤ b) → (0 ≤ (((8 * d) + 8) + a) ∧ (((8 * d) + 8) + a) < 48) ∧ r32 st ∧ (0 ≤ (((8 * d) + 8) + a) ∧ (((8 * d) + 8) + a) < 48) ∧ V_X11_goesBy R 244 [(0, kR 201), (1, kI d), (3, kI x), (4, kI a)] (updm μ 223 (((8 * d) + 8) + a) ((μ 223 (((8 * d) + 8) + a)) + (h * st)))) ∧ (¬ ((μ 201 13) ≤ b) → P_X11_of 201 ((40 + (8 * a)) + b) μ ∧ r32 (F_X11_of 201 ((40 + (8 * a)) + b) μ) ∧ ((¬ (F_X11_of 201 ((40 + (8 * a)) + b) μ) = 0) → (0 ≤ (((8 * d) + 8) + b) ∧ (((8 * d) + 8) + b) < 48) ∧ P_X11_of 201 3 μ ∧ r32 (F_X11_of 201 3 μ) ∧ (0 ≤ (((8 * d) + 8) + b) ∧ (((8 * d) + 8) + b) < 48) ∧ V_X11_goesBy R 204 [(0, kR 201), (1, kI d), (3, kI x), (4, kI a), (5, kL h), (7, kI st), (8, kI b)] (updm μ 223 (((8 * d) + 8) + b) ((μ 223 (((8 * d) + 8) + b)) + (h * (F_X11_of 201 3 μ))))) ∧ (¬ (¬ (F_X11_of 201 ((40 + (8 * a)) + b) μ) = 0) → V_X11_goesBy R 147 [(0, kR 201), (1, kI d), (3, kI x), (4, kI a), (5, kL h), (7, kI st), (8, kI (b + 1))] μ))) : V_X11_goesBy R 147 [(0, kR 201), (1, kI d), (3, kI x), (4, kI a), (5, kL h), (7, kI st), (8, kI b)] μ := by
  refine vm_step2 mt_X11_goesBy ok_X11_goesBy [(56, [0, 1, 3]), (59, [0, 1, 3, 4]), (84, [0, 1, 3, 4]), (93, [0, 1, 3, 4]), (147, [0, 1, 3, 4, 5, 7, 8]), (204, [0, 1, 3, 4, 5, 7, 8]), (244, [0, 1, 3, 4])] 1000 ?_
  show isC 201 11 ∧ (r32 b ∧ r32 (μ 201 13)) ∧ (((μ 201 13) ≤ b) → isC 201 11 ∧ inA 223 1 (((8 * d) + 8) + a) ∧ r32 st ∧ inA 223 1 (((8 * d) + 8) + a) ∧ V_X11_goesBy R 244 [(0, kR 201), (1, kI d), (3, kI x), (4, kI a)] (updm μ 223 (((8 * d) + 8) + a) ((μ 223 (((8 * d) + 8) + a)) + (h * st)))) ∧ (¬ ((μ 201 13) ≤ b) → isC 201 11 ∧ P_X11_of 201 ((40 + (8 * a)) + b) μ ∧ r32 (F_X11_of 201 ((40 + (8 * a)) + b) μ) ∧ ((¬ (F_X11_of 201 ((40 + (8 * a)) + b) μ) = 0) → isC 201 11 ∧ inA 223 1 (((8 * d) + 8) + b) ∧ isC 201 11 ∧ P_X11_of 201 3 μ ∧ r32 (F_X11_of 201 3 μ) ∧ inA 223 1 (((8 * d) + 8) + b) ∧ V_X11_goesBy R 204 [(0, kR 201), (1, kI d), (3, kI x), (4, kI a), (5, kL h), (7, kI st), (8, kI b)] (updm μ 223 (((8 * d) + 8) + b) ((μ 223 (((8 * d) + 8) + b)) + (h * (F_X11_of 201 3 μ))))) ∧ (¬ (¬ (F_X11_of 201 ((40 + (8 * a)) + b) μ) = 0) → V_X11_goesBy R 147 [(0, kR 201), (1, kI d), (3, kI x), (4, kI a), (5, kL h), (7, kI st), (8, kI (b + 1))] μ))
  exact ⟨c_201, ⟨⟨H.1, H.2.1⟩, fun hc5 => ⟨c_201, ⟨isArr.in a_223 (H.2.2.1 hc5).1.1 (H.2.2.1 hc5).1.2, ⟨(H.2.2.1 hc5).2.1, ⟨isArr.in a_223 (H.2.2.1 hc5).2.2.1.1 (H.2.2.1 hc5).2.2.1.2, (H.2.2.1 hc5).2.2.2⟩⟩⟩⟩, fun hc5 => ⟨c_201, (H.2.2.2 hc5).1, ⟨(H.2.2.2 hc5).2.1, fun hc4 => ⟨c_201, ⟨isArr.in a_223 ((H.2.2.2 hc5).2.2.1 hc4).1.1 ((H.2.2.2 hc5).2.2.1 hc4).1.2, ⟨c_201, ((H.2.2.2 hc5).2.2.1 hc4).2.1, ⟨((H.2.2.2 hc5).2.2.1 hc4).2.2.1, ⟨isArr.in a_223 ((H.2.2.2 hc5).2.2.1 hc4).2.2.2.1.1 ((H.2.2.2 hc5).2.2.1 hc4).2.2.2.1.2, ((H.2.2.2 hc5).2.2.1 hc4).2.2.2.2⟩⟩⟩⟩⟩, fun hc4 => ((H.2.2.2 hc5).2.2.2 hc4)⟩⟩⟩⟩
set_option maxRecDepth 20000 in
theorem vc_X11_goesBy_204 {R : Mem → Option AV → Prop} {d x a h st b : Int} {μ : Mem} (H : P_X11_of 201 3 μ ∧ V_X11_goesBy R 147 [(0, kR 201), (1, kI d), (3, kI x), (4, kI a), (5, kL h), (7, kI (st - (F_X11_of 201 3 μ))), (8, kI (b + 1))] μ) : V_X11_goesBy R 204 [(0, kR 201), (1, kI d), (3, kI x), (4, kI a), (5, kL h), (7, kI st), (8, kI b)] μ := by
  refine vm_step2 mt_X11_goesBy ok_X11_goesBy [(56, [0, 1, 3]), (59, [0, 1, 3, 4]), (84, [0, 1, 3, 4]), (93, [0, 1, 3, 4]), (147, [0, 1, 3, 4, 5, 7, 8]), (204, [0, 1, 3, 4, 5, 7, 8]), (244, [0, 1, 3, 4])] 1000 ?_
  show isC 201 11 ∧ P_X11_of 201 3 μ ∧ V_X11_goesBy R 147 [(0, kR 201), (1, kI d), (3, kI x), (4, kI a), (5, kL h), (7, kI (st - (F_X11_of 201 3 μ))), (8, kI (b + 1))] μ
  exact ⟨c_201, H.1, H.2⟩
set_option maxRecDepth 20000 in
theorem vc_X11_goesBy_244 {R : Mem → Option AV → Prop} {d x a : Int} {μ : Mem} (H : V_X11_goesBy R 93 [(0, kR 201), (1, kI d), (3, kI x), (4, kI (a + 1))] μ) : V_X11_goesBy R 244 [(0, kR 201), (1, kI d), (3, kI x), (4, kI a)] μ := by
  refine vm_step2 mt_X11_goesBy ok_X11_goesBy [(56, [0, 1, 3]), (59, [0, 1, 3, 4]), (84, [0, 1, 3, 4]), (93, [0, 1, 3, 4]), (147, [0, 1, 3, 4, 5, 7, 8]), (204, [0, 1, 3, 4, 5, 7, 8]), (244, [0, 1, 3, 4])] 1000 ?_
  show V_X11_goesBy R 93 [(0, kR 201), (1, kI d), (3, kI x), (4, kI (a + 1))] μ
  exact H
theorem body_X11_goesBy {o d k : Int} {μ : Mem} {R : Mem → Option AV → Prop} (h : P_X11_goesBy o d k μ) (hR : ∀ μ' : Mem, Q_X11_goesBy o d k μ μ' → R μ' none) : V_X11_goesBy R 0 [(0, kR o), (1, kI d), (2, kI k)] μ := by
  obtain ⟨rfl, hb, hd, hx⟩ := h
  have ok := hb.v
  have hp := hb.p
  have hpe := hb.2.1
  rw [hpe] at hp
  obtain ⟨x, ex⟩ : ∃ x : Int, x = μ 225 d := ⟨_, rfl⟩
  rw [← ex] at hx
  have h5 := (ok.2.2.2.1 x hx.1 (by omega)).2.1
  have e5 : F_X11_of 201 (20 + x) μ = vm μ 5 x := of_5 hx.1 (by omega)
  obtain ⟨C, eC⟩ : ∃ C : Int, C = μ 224 d + μ 223 (8 * d + x) * vm μ 5 x * 12 ^ (2 * (k - d) - 1).toNat := ⟨_, rfl⟩
  obtain ⟨p, hpp⟩ : ∃ p : Int, p = vm μ 0 0 := ⟨_, rfl⟩
  rw [← hpp] at hpe hp hx
  obtain ⟨g, hg⟩ : ∃ g : Int → Int, g = dayV (vm μ) x (fun b => μ 223 (8 * d + b)) := ⟨_, rfl⟩
  -- what each step keeps
  obtain ⟨K, eK⟩ : ∃ K : Mem → Prop, ∀ m, K m = ((∀ z : Int, z ≠ 223 → z ≠ 224 → m z = μ z) ∧ (∀ j : Int, j < 8 * (d + 1) → m 223 j = μ 223 j) ∧ (∀ j : Int, j ≠ d + 1 → m 224 j = μ 224 j) ∧ m 224 (d + 1) = C) := ⟨_, fun _ => rfl⟩
  have Kput : ∀ (m : Mem) (j w : Int), K m → 0 ≤ j → K (updm m 223 (8 * d + 8 + j) w) := fun m j w hk j0 => by
    rw [eK] at hk ⊢
    obtain ⟨k1, k2, k3, k4⟩ := hk
    exact ⟨fun z z0 z1 => by rw [ru_ne z0, k1 z z0 z1], fun i i0 => by rw [ru_eq, r1_ne (by omega), k2 i i0], fun i i0 => by rw [ru_ne (by omega), k3 i i0], by rw [ru_ne (by omega), k4]⟩
  have fr : ∀ m : Mem, K m → MB m ∧ vm m = vm μ ∧ m 201 13 = p ∧ F_X11_of 201 3 m = vm μ 3 0 := fun m hk => by
    rw [eK] at hk
    have hf := hk.1
    obtain ⟨mb, ev⟩ := MB_frame hb (hf 202 (by omega) (by omega)) (by rw [hf 201 (by omega) (by omega)]) (by rw [hf 201 (by omega) (by omega)])
    exact ⟨mb, ev, by rw [hf 201 (by omega) (by omega), hpe], by rw [← ev]; rfl⟩
  have row : ∀ (m : Mem) (j : Int), K m → j < 8 → m 223 (8 * d + j) = μ 223 (8 * d + j) := fun m j hk j1 => by
    rw [eK] at hk
    exact hk.2.1 _ (by omega)
  have p2 : ∀ a : Int, 0 ≤ a → a ≤ p → ∀ m : Mem, K m → (∀ j : Int, 0 ≤ j → j < p → m 223 (8 * d + 8 + j) = sm (fun i => mvV (vm μ) j i * g i) a) → V_X11_goesBy R 93 [(0, kR 201), (1, kI d), (3, kI x), (4, kI a)] m := by
    refine up_ind (P := fun a => ∀ m : Mem, K m → (∀ j : Int, 0 ≤ j → j < p → m 223 (8 * d + 8 + j) = sm (fun i => mvV (vm μ) j i * g i) a) → V_X11_goesBy R 93 [(0, kR 201), (1, kI d), (3, kI x), (4, kI a)] m) ?_ ?_
    · intro a a0 a1 ih m hk hs
      have pb : ∀ b : Int, 0 ≤ b → b ≤ p → ∀ m : Mem, K m → (∀ j : Int, 0 ≤ j → j < p → m 223 (8 * d + 8 + j) = sm (fun i => mvV (vm μ) j i * g i) a + (if j < b then (if vm μ 7 (8 * a + j) = 0 then 0 else g a * vm μ 3 0) else 0)) → V_X11_goesBy R 147 [(0, kR 201), (1, kI d), (3, kI x), (4, kI a), (5, kL (g a)), (7, kI (12 - vm μ 3 0 * sm (fun i => if vm μ 7 (8 * a + i) = 0 then 0 else 1) b)), (8, kI b)] m := by
        refine up_ind (P := fun b => ∀ m : Mem, K m → (∀ j : Int, 0 ≤ j → j < p → m 223 (8 * d + 8 + j) = sm (fun i => mvV (vm μ) j i * g i) a + (if j < b then (if vm μ 7 (8 * a + j) = 0 then 0 else g a * vm μ 3 0) else 0)) → V_X11_goesBy R 147 [(0, kR 201), (1, kI d), (3, kI x), (4, kI a), (5, kL (g a)), (7, kI (12 - vm μ 3 0 * sm (fun i => if vm μ 7 (8 * a + i) = 0 then 0 else 1) b)), (8, kI b)] m) ?_ ?_
        · intro b b0 b1 ihb m hk hs
          obtain ⟨mb, ev, e13, e3⟩ := fr m hk
          have h3 := ok.2.2.1
          have h7 := vm7_nn ok (8 * a + b)
          rw [sm_s b0] at ihb
          refine vc_X11_goesBy_147 ?_
          rw [of_7' a0 (by omega) b0 (by omega), e13, ev, e3]
          refine ⟨rr (by omega), rr (by omega), fun c => absurd c (by omega), fun _ => ⟨⟨rfl, mb.1, by omega, by omega⟩, rr (by omega), fun c => ⟨by omega, ⟨rfl, mb.1, by omega, by omega⟩, rr (by omega), by omega, ?_⟩, fun c => ?_⟩⟩
          · have k1 := Kput m b (m 223 (8 * d + 8 + b) + g a * vm μ 3 0) hk b0
            obtain ⟨m1, em1⟩ : ∃ y, y = updm m 223 (8 * d + 8 + b) (m 223 (8 * d + 8 + b) + g a * vm μ 3 0) := ⟨_, rfl⟩
            rw [← em1] at k1 ⊢
            obtain ⟨mb1, ev1, _, e31⟩ := fr m1 k1
            refine vc_X11_goesBy_204 ⟨⟨rfl, mb1.1, by omega, by omega⟩, ?_⟩
            rw [e31]
            rw [if_neg c, Int.mul_add, Int.mul_one] at ihb
            have est : (12 : Int) - vm μ 3 0 * sm (fun i => if vm μ 7 (8 * a + i) = 0 then 0 else 1) b - vm μ 3 0 = 12 - (vm μ 3 0 * sm (fun i => if vm μ 7 (8 * a + i) = 0 then 0 else 1) b + vm μ 3 0) := by omega
            rw [est]
            refine ihb m1 k1 (fun j j0 j1 => ?_)
            have hj := hs j j0 j1
            rw [em1, ru_eq]
            by_cases e : j = b
            · subst e
              rw [if_neg (by omega)] at hj
              rw [r1_eq, hj, if_pos (show j < j + 1 by omega), if_neg c, Int.add_zero]
            · rw [r1_ne (by omega), hj]
              by_cases l : j < b
              · rw [if_pos l, if_pos (show j < b + 1 by omega)]
              · rw [if_neg l, if_neg (show ¬ j < b + 1 by omega)]
          · have cz := Classical.not_not.mp c
            rw [if_pos cz, Int.add_zero] at ihb
            refine ihb m hk (fun j j0 j1 => ?_)
            rw [hs j j0 j1]
            by_cases e : j = b
            · subst e
              rw [if_neg (show ¬ j < j by omega), if_pos (show j < j + 1 by omega), if_pos cz]
            · by_cases l : j < b
              · rw [if_pos l, if_pos (show j < b + 1 by omega)]
              · rw [if_neg l, if_neg (show ¬ j < b + 1 by omega)]
        · intro m hk hs
          obtain ⟨mb, ev, e13, e3⟩ := fr m hk
          have el : sm (fun b => if vm μ 7 (8 * a + b) = 0 then 0 else 1) p = lanesV (vm μ) a := by rw [hpp]; rfl
          have lb := lanesV_bd ok (a := a)
          have h3 := ok.2.2.1
          have mbd := mul_bd h3.1 h3.2 lb.1 lb.2
          refine vc_X11_goesBy_147 ?_
          rw [e13, el]
          refine ⟨rr (by omega), rr (by omega), fun _ => ⟨by omega, rr (by omega), by omega, vc_X11_goesBy_244 (ih _ (Kput m a _ hk a0) (fun j j0 j1 => ?_))⟩, fun c => absurd (Int.le_refl _) c⟩
          have hj := hs j j0 j1
          rw [if_pos j1] at hj
          have add := mv_add ok (h := g a) (j := j) a0 (by omega) j0 (by omega)
          rw [sm_s a0, ← add, ru_eq]
          by_cases e : j = a
          · rw [if_pos e]
            rw [e] at hj ⊢
            rw [r1_eq, hj]
            omega
          · rw [if_neg e, r1_ne (by omega), hj]
            omega
      obtain ⟨mb, ev, e13, e3⟩ := fr m hk
      have z0 := pb 0 (by omega) (by omega) m hk (fun j j0 j1 => by rw [hs j j0 j1, if_neg (by omega), Int.add_zero])
      have e0 : (12 : Int) - vm μ 3 0 * sm (fun i => if vm μ 7 (8 * a + i) = 0 then 0 else 1) 0 = 12 := by
        show (12 : Int) - vm μ 3 0 * 0 = 12
        omega
      rw [e0] at z0
      have ega : g a = μ 223 (8 * d + a) * (if a = x then 12 - vm μ 5 a else 12) := by rw [hg]; rfl
      refine vc_X11_goesBy_93 ?_
      rw [e13, of_5 hx.1 (by omega), ev, row m a hk (by omega)]
      refine ⟨rr (by omega), rr (by omega), fun c => absurd c (by omega), fun _ => ⟨by omega, rr (by omega), rr (by omega), fun c => ?_, fun c => ⟨⟨rfl, mb.1, by omega, by omega⟩, rr (by omega), ?_⟩⟩⟩
      · rw [if_neg c] at ega
        rw [← ega]; exact z0
      · have cc := Classical.not_not.mp c
        rw [if_pos cc] at ega
        rw [← cc, ← ega]
        rw [← cc] at z0
        exact z0
    · intro m hk hs
      obtain ⟨mb, ev, e13, e3⟩ := fr m hk
      rw [eK] at hk
      obtain ⟨k1, k2, k3, k4⟩ := hk
      refine vc_X11_goesBy_93 ?_
      rw [e13]
      refine ⟨rr (by omega), rr (by omega), fun _ => hR m ⟨fun a a0 a1 => ?_, by rw [k4, eC, ex], k2, k3, k1⟩, fun c => absurd (Int.le_refl _) c⟩
      rw [show 8 * (d + 1) + a = 8 * d + 8 + a by omega, hs a a0 (by omega), ← ex]
      unfold lieS nightV
      rw [hg, ← hpp]
  have p1 : ∀ a : Int, 0 ≤ a → a ≤ p → ∀ m : Mem, K m → (∀ j : Int, 0 ≤ j → j < a → m 223 (8 * d + 8 + j) = 0) → V_X11_goesBy R 59 [(0, kR 201), (1, kI d), (3, kI x), (4, kI a)] m := by
    refine up_ind (P := fun a => ∀ m : Mem, K m → (∀ j : Int, 0 ≤ j → j < a → m 223 (8 * d + 8 + j) = 0) → V_X11_goesBy R 59 [(0, kR 201), (1, kI d), (3, kI x), (4, kI a)] m) ?_ ?_
    · intro a a0 a1 ih m hk hs
      obtain ⟨mb, ev, e13, e3⟩ := fr m hk
      refine vc_X11_goesBy_59 ?_
      rw [e13]
      refine ⟨rr (by omega), rr (by omega), fun c => absurd c (by omega), fun _ => ⟨by omega, vc_X11_goesBy_84 (ih _ (Kput m a _ hk a0) (fun j j0 j1 => ?_))⟩⟩
      rw [ru_eq]
      by_cases e : j = a
      · rw [e, r1_eq]
      · rw [r1_ne (by omega)]; exact hs j j0 (by omega)
    · intro m hk hs
      obtain ⟨mb, ev, e13, e3⟩ := fr m hk
      refine vc_X11_goesBy_59 ?_
      rw [e13]
      exact ⟨rr (by omega), rr (by omega), fun _ => p2 0 (by omega) (by omega) m hk (fun j j0 j1 => hs j j0 j1), fun c => absurd (Int.le_refl _) c⟩
  refine vc_X11_goesBy_0 ?_
  unfold F_X11_power
  rw [← ex, e5, ← eC]
  refine ⟨by omega, by omega, by omega, ⟨rfl, hb.1, by omega, by omega⟩, rr (by omega), ⟨rr (by omega), rr (by omega)⟩, by omega, vc_X11_goesBy_56 (p1 0 (by omega) (by omega) _ ?_ (fun j j0 j1 => absurd j0 (by omega)))⟩
  rw [eK]
  exact ⟨fun z _ z1 => ru_ne z1, fun j _ => by rw [ru_ne (by omega)], fun j hj => by rw [ru_eq, r1_ne hj], by rw [ru_eq, r1_eq]⟩
theorem ct_X11_goesBy : Ct mX11_goesBy 1 24 0 0 (nrmS S_X11_goesBy) := by
  refine ct_vm (own := RX11) (by decide +kernel) rfl ?_ ?_
  · intro as μ Q hS
    unfold S_X11_goesBy at hS
    split at hS
    · exact Nat.le_of_ble_eq_true rfl
    · exact hS.elim
  · intro as μ R hS
    unfold S_X11_goesBy at hS
    split at hS
    · exact body_X11_goesBy hS.1 hS.2
    · exact hS.elim
theorem totV_congr {v : TV} {r r' : Int → Int} {k : Int} (h0 : 1 ≤ k) (h : ∀ j, 0 ≤ j → j < k → r j = r' j) : totV v k r = totV v k r' := by
  unfold totV
  rw [fbV_congr (r := r) (r' := r') (fun j j0 j1 => h j j0 (by omega)), lieV_congr (r := r) (r' := r') (d := k - 1) (fun j j0 j1 => h j j0 (by omega)), h (k - 1) (by omega) (by omega)]
theorem totV_bd {v : TV} (ok : TVok v) (hc : calm v) {r : Int → Int} {k : Int} (k0 : 1 ≤ k) (k1 : k ≤ 5) (hr : ∀ j : Int, 0 ≤ j → j < k → 0 ≤ r j ∧ r j < v 0 0) : 0 ≤ totV v k r ∧ totV v k r ≤ 1000000000000000000 := by
  have hp := ok.1
  have hk := hr (k - 1) (by omega) (by omega)
  have f := fbV_bd ok hc (r := r) (d := k - 1) (fun j j0 j1 => hr j j0 (by omega)) (by omega) (by omega)
  have l := lieV_bd ok hc r (d := k - 1) (by omega) (by omega) hk.1 hk.2
  have h5 := (ok.2.2.2.1 (r (k - 1)) hk.1 (by omega)).2.1
  have m := mul_bd l.1 l.2 (show 0 ≤ v 5 (r (k - 1)) by omega) h5.2
  unfold totV
  omega
theorem chaF_bd {v : TV} (ok : TVok v) (hc : calm v) {k n : Int} (k0 : 1 ≤ k) (k1 : k ≤ 5) (n0 : 0 ≤ n) : (-1 ≤ (chaF v k n).1 ∧ (chaF v k n).1 ≤ 1000000000000000000) ∧ (0 < n → 0 ≤ (chaF v k n).1) := by
  have hp := ok.1
  refine nat_ind (P := fun n => (-1 ≤ (chaF v k n).1 ∧ (chaF v k n).1 ≤ 1000000000000000000) ∧ (0 < n → 0 ≤ (chaF v k n).1)) ?_ (fun i i0 ih => ?_) n n0
  · exact ⟨⟨by show (-1 : Int) ≤ -1; omega, by show (-1 : Int) ≤ 1000000000000000000; omega⟩, fun q => absurd q (by omega)⟩
  · have t := totV_bd ok hc (r := dg (v 0 0) k.toNat i) k0 k1 (fun j _ _ => dg_bd (by omega) _ _ _)
    rw [chaF_s i0]
    by_cases c : (chaF v k i).1 < totV v k (dg (v 0 0) k.toNat i)
    · rw [if_pos c]
      exact ⟨⟨by show -1 ≤ totV _ _ _; omega, t.2⟩, fun _ => t.1⟩
    · rw [if_neg c]
      exact ⟨ih.1, fun _ => by omega⟩
/-- what is found before day d, in the last day's parts -/
def cgV (v : TV) (k : Int) (r : Int → Int) (d : Int) : Int := if d = k then totV v k r else fbV v r d * 144 ^ (k - 1 - d).toNat
theorem cgV_s {v : TV} {k : Int} {r : Int → Int} {d : Int} (d0 : 0 ≤ d) (d1 : d < k) (k1 : k ≤ 5) : cgV v k r (d + 1) = cgV v k r d + lieV v r d (r d) * v 5 (r d) * 12 ^ (2 * (k - d) - 1).toNat := by
  unfold cgV
  rw [if_neg (show ¬ d = k by omega)]
  by_cases e : d + 1 = k
  · rw [if_pos e]
    unfold totV
    rw [show k - 1 = d by omega, show (d - d).toNat = 0 by omega, show (2 * (k - d) - 1).toNat = 1 by omega]
    show _ = fbV v r d * 1 + lieV v r d (r d) * v 5 (r d) * 12
    omega
  · rw [if_neg e, fbV_s d0]
    generalize lieV v r d (r d) * v 5 (r d) = L
    generalize fbV v r d = F
    obtain ⟨n, hn⟩ : ∃ n : Nat, n = (k - 1 - (d + 1)).toNat := ⟨_, rfl⟩
    rw [← hn, show (k - 1 - d).toNat = n + 1 by omega, show (2 * (k - d) - 1).toNat = 2 * n + 3 by omega]
    have hm : n = 0 ∨ n = 1 ∨ n = 2 ∨ n = 3 := by omega
    rcases hm with h | h | h | h <;> subst h <;> simp only [Nat.reduceAdd, Nat.reduceMul, Int.reducePow] <;> omega
def P_X11_chases (o k : Int) (μ : Mem) : Prop := o = 201 ∧ MB μ ∧ 1 ≤ k ∧ k ≤ 5
def Q_X11_chases (_ k : Int) (μ μ' : Mem) : Prop := μ' 201 42 = (chaV (vm μ) k).1 ∧ (∀ j : Int, 0 ≤ j → j < k → μ' 226 j = dg (vm μ 0 0) k.toNat (chaV (vm μ) k).2 j) ∧ FldM μ μ' [42] ∧ ∀ z : Int, z ≠ 201 → (z < 223 ∨ 226 < z) → μ' z = μ z
def S_X11_chases : S0t := fun as μ Q => match as with
  | [(2, x0), (0, x1)] => P_X11_chases x0 x1 μ ∧ ∀ (μ' : Mem) , Q_X11_chases x0 x1 μ μ'  → Q μ' none
  | _ => False
theorem mono_X11_chases : Mono S_X11_chases := by
  intro as μ Q Q' h hS
  unfold S_X11_chases at hS ⊢
  split at hS
  · exact ⟨hS.1, fun μ' q => h _ _ (hS.2 _ q)⟩
  · exact hS.elim
def iX11_chases : Inf := (kX11_chases, fTX11, pTX11, cTX11, lTX11, sTX11, [(209, 0, 1, 11, S_X11_of), (381, 0, 2, 11, S_X11_goesBy)])
theorem ok_X11_chases : infOK iX11_chases mX11_chases RX11 2 52 := ⟨kkX11_chases, fTX11_ok, pTX11_ok _, cTX11_ok, lTX11_ok, sTX11_ok, c_cons ⟨mX11_of, 0, 0, ct_X11_of, mmX11_of, vvX11_of, lkX11_209, ⟨by decide, by decide⟩, ⟨_, _, rfl⟩, by decide, mono_X11_of⟩ (c_cons ⟨mX11_goesBy, 1, 24, ct_X11_goesBy, mmX11_goesBy, vvX11_goesBy, lkX11_381, ⟨by decide, by decide⟩, ⟨_, _, rfl⟩, by decide, mono_X11_goesBy⟩ (c_nil))⟩
theorem mt_X11_chases : mtOK [] RX11 2 52 := mt_nil
abbrev V_X11_chases (R : Mem → Option AV → Prop) (pc : Nat) (lc : List (Nat × AV)) (μ : Mem) : Prop := VM mX11_chases RX11 2 52 R pc lc [] μ
set_option maxRecDepth 20000 in
theorem vc_X11_chases_0 {R : Mem → Option AV → Prop} {k : Int} {μ : Mem} (H : V_X11_chases R 2 [(0, kR 201), (1, kI k), (2, kI 0)] μ) : V_X11_chases R 0 [(0, kR 201), (1, kI k)] μ := by
  refine vm_step2 mt_X11_chases ok_X11_chases [(2, [0, 1, 2]), (25, [0, 1, 2]), (33, [0, 1, 2]), (45, [0, 1, 2]), (58, [0, 1]), (65, [0, 1]), (67, [0, 1, 2]), (73, [0, 1, 3]), (84, [0, 1, 3]), (114, [0, 1]), (116, [0, 1, 3]), (133, [0, 1, 3]), (143, [0, 1, 2]), (169, [0, 1, 2]), (189, [0, 1, 2])] 1000 ?_
  show V_X11_chases R 2 [(0, kR 201), (1, kI k), (2, kI 0)] μ
  exact H
set_option maxRecDepth 20000 in
theorem vc_X11_chases_2 {R : Mem → Option AV → Prop} {k fm : Int} {μ : Mem} (H : r32 fm ∧ r32 (μ 201 13) ∧ (((μ 201 13) ≤ fm) → V_X11_chases R 33 [(0, kR 201), (1, kI k), (2, kI 0)] μ) ∧ (¬ ((μ 201 13) ≤ fm) → P_X11_of 201 (10 + fm) μ ∧ r32 (F_X11_of 201 (10 + fm) μ) ∧ (0 ≤ fm ∧ fm < 48) ∧ V_X11_chases R 25 [(0, kR 201), (1, kI k), (2, kI fm)] (updm μ 223 fm (F_X11_of 201 (10 + fm) μ)))) : V_X11_chases R 2 [(0, kR 201), (1, kI k), (2, kI fm)] μ := by
  refine vm_step2 mt_X11_chases ok_X11_chases [(2, [0, 1, 2]), (25, [0, 1, 2]), (33, [0, 1, 2]), (45, [0, 1, 2]), (58, [0, 1]), (65, [0, 1]), (67, [0, 1, 2]), (73, [0, 1, 3]), (84, [0, 1, 3]), (114, [0, 1]), (116, [0, 1, 3]), (133, [0, 1, 3]), (143, [0, 1, 2]), (169, [0, 1, 2]), (189, [0, 1, 2])] 1000 ?_
  show isC 201 11 ∧ (r32 fm ∧ r32 (μ 201 13)) ∧ (((μ 201 13) ≤ fm) → V_X11_chases R 33 [(0, kR 201), (1, kI k), (2, kI 0)] μ) ∧ (¬ ((μ 201 13) ≤ fm) → isC 201 11 ∧ isC 201 11 ∧ P_X11_of 201 (10 + fm) μ ∧ r32 (F_X11_of 201 (10 + fm) μ) ∧ inA 223 1 fm ∧ V_X11_chases R 25 [(0, kR 201), (1, kI k), (2, kI fm)] (updm μ 223 fm (F_X11_of 201 (10 + fm) μ)))
  exact ⟨c_201, ⟨⟨H.1, H.2.1⟩, fun hc1 => (H.2.2.1 hc1), fun hc1 => ⟨c_201, ⟨c_201, (H.2.2.2 hc1).1, ⟨(H.2.2.2 hc1).2.1, ⟨isArr.in a_223 (H.2.2.2 hc1).2.2.1.1 (H.2.2.2 hc1).2.2.1.2, (H.2.2.2 hc1).2.2.2⟩⟩⟩⟩⟩⟩
set_option maxRecDepth 20000 in
theorem vc_X11_chases_25 {R : Mem → Option AV → Prop} {k fm : Int} {μ : Mem} (H : V_X11_chases R 2 [(0, kR 201), (1, kI k), (2, kI (fm + 1))] μ) : V_X11_chases R 25 [(0, kR 201), (1, kI k), (2, kI fm)] μ := by
  refine vm_step2 mt_X11_chases ok_X11_chases [(2, [0, 1, 2]), (25, [0, 1, 2]), (33, [0, 1, 2]), (45, [0, 1, 2]), (58, [0, 1]), (65, [0, 1]), (67, [0, 1, 2]), (73, [0, 1, 3]), (84, [0, 1, 3]), (114, [0, 1]), (116, [0, 1, 3]), (133, [0, 1, 3]), (143, [0, 1, 2]), (169, [0, 1, 2]), (189, [0, 1, 2])] 1000 ?_
  show V_X11_chases R 2 [(0, kR 201), (1, kI k), (2, kI (fm + 1))] μ
  exact H
set_option maxRecDepth 20000 in
theorem vc_X11_chases_33 {R : Mem → Option AV → Prop} {k fm : Int} {μ : Mem} (H : r32 fm ∧ r32 k ∧ ((k ≤ fm) → V_X11_chases R 58 [(0, kR 201), (1, kI k)] (updm μ 224 0 0)) ∧ (¬ (k ≤ fm) → (0 ≤ fm ∧ fm < 5) ∧ V_X11_chases R 45 [(0, kR 201), (1, kI k), (2, kI fm)] (updm μ 225 fm 0))) : V_X11_chases R 33 [(0, kR 201), (1, kI k), (2, kI fm)] μ := by
  refine vm_step2 mt_X11_chases ok_X11_chases [(2, [0, 1, 2]), (25, [0, 1, 2]), (33, [0, 1, 2]), (45, [0, 1, 2]), (58, [0, 1]), (65, [0, 1]), (67, [0, 1, 2]), (73, [0, 1, 3]), (84, [0, 1, 3]), (114, [0, 1]), (116, [0, 1, 3]), (133, [0, 1, 3]), (143, [0, 1, 2]), (169, [0, 1, 2]), (189, [0, 1, 2])] 1000 ?_
  show (r32 fm ∧ r32 k) ∧ ((k ≤ fm) → isC 201 11 ∧ inA 224 1 (0 : Int) ∧ V_X11_chases R 58 [(0, kR 201), (1, kI k)] (updm μ 224 0 0)) ∧ (¬ (k ≤ fm) → isC 201 11 ∧ inA 225 0 fm ∧ V_X11_chases R 45 [(0, kR 201), (1, kI k), (2, kI fm)] (updm μ 225 fm 0))
  exact ⟨⟨H.1, H.2.1⟩, fun hc2 => ⟨c_201, ⟨isArr.in a_224 (by omega) (by omega), (H.2.2.1 hc2)⟩⟩, fun hc2 => ⟨c_201, ⟨isArr.in a_225 (H.2.2.2 hc2).1.1 (H.2.2.2 hc2).1.2, (H.2.2.2 hc2).2⟩⟩⟩
set_option maxRecDepth 20000 in
theorem vc_X11_chases_45 {R : Mem → Option AV → Prop} {k fm : Int} {μ : Mem} (H : V_X11_chases R 33 [(0, kR 201), (1, kI k), (2, kI (fm + 1))] μ) : V_X11_chases R 45 [(0, kR 201), (1, kI k), (2, kI fm)] μ := by
  refine vm_step2 mt_X11_chases ok_X11_chases [(2, [0, 1, 2]), (25, [0, 1, 2]), (33, [0, 1, 2]), (45, [0, 1, 2]), (58, [0, 1]), (65, [0, 1]), (67, [0, 1, 2]), (73, [0, 1, 3]), (84, [0, 1, 3]), (114, [0, 1]), (116, [0, 1, 3]), (133, [0, 1, 3]), (143, [0, 1, 2]), (169, [0, 1, 2]), (189, [0, 1, 2])] 1000 ?_
  show V_X11_chases R 33 [(0, kR 201), (1, kI k), (2, kI (fm + 1))] μ
  exact H
set_option maxRecDepth 20000 in
theorem vc_X11_chases_58 {R : Mem → Option AV → Prop} {k : Int} {μ : Mem} (H : V_X11_chases R 65 [(0, kR 201), (1, kI k)] (updm μ 201 42 (-1))) : V_X11_chases R 58 [(0, kR 201), (1, kI k)] μ := by
  refine vm_step2 mt_X11_chases ok_X11_chases [(2, [0, 1, 2]), (25, [0, 1, 2]), (33, [0, 1, 2]), (45, [0, 1, 2]), (58, [0, 1]), (65, [0, 1]), (67, [0, 1, 2]), (73, [0, 1, 3]), (84, [0, 1, 3]), (114, [0, 1]), (116, [0, 1, 3]), (133, [0, 1, 3]), (143, [0, 1, 2]), (169, [0, 1, 2]), (189, [0, 1, 2])] 1000 ?_
  show isC 201 11 ∧ 1 = 1 ∧ True ∧ V_X11_chases R 65 [(0, kR 201), (1, kI k)] (updm μ 201 42 (-1))
  exact ⟨c_201, rfl, trivial, H⟩
set_option maxRecDepth 20000 in
theorem vc_X11_chases_65 {R : Mem → Option AV → Prop} {k : Int} {μ : Mem} (H : V_X11_chases R 67 [(0, kR 201), (1, kI k), (2, kI 0)] μ) : V_X11_chases R 65 [(0, kR 201), (1, kI k)] μ := by
  refine vm_step2 mt_X11_chases ok_X11_chases [(2, [0, 1, 2]), (25, [0, 1, 2]), (33, [0, 1, 2]), (45, [0, 1, 2]), (58, [0, 1]), (65, [0, 1]), (67, [0, 1, 2]), (73, [0, 1, 3]), (84, [0, 1, 3]), (114, [0, 1]), (116, [0, 1, 3]), (133, [0, 1, 3]), (143, [0, 1, 2]), (169, [0, 1, 2]), (189, [0, 1, 2])] 1000 ?_
  show V_X11_chases R 67 [(0, kR 201), (1, kI k), (2, kI 0)] μ
  exact H
set_option maxRecDepth 20000 in
theorem vc_X11_chases_67 {R : Mem → Option AV → Prop} {k fm : Int} {μ : Mem} (H : r32 fm ∧ ((fm < 0) → R μ none) ∧ (¬ (fm < 0) → V_X11_chases R 73 [(0, kR 201), (1, kI k), (3, kI fm)] μ)) : V_X11_chases R 67 [(0, kR 201), (1, kI k), (2, kI fm)] μ := by
  refine vm_step2 mt_X11_chases ok_X11_chases [(2, [0, 1, 2]), (25, [0, 1, 2]), (33, [0, 1, 2]), (45, [0, 1, 2]), (58, [0, 1]), (65, [0, 1]), (67, [0, 1, 2]), (73, [0, 1, 3]), (84, [0, 1, 3]), (114, [0, 1]), (116, [0, 1, 3]), (133, [0, 1, 3]), (143, [0, 1, 2]), (169, [0, 1, 2]), (189, [0, 1, 2])] 1000 ?_
  show r32 fm ∧ ((fm < 0) → R μ none) ∧ (¬ (fm < 0) → V_X11_chases R 73 [(0, kR 201), (1, kI k), (3, kI fm)] μ)
  exact ⟨H.1, fun hc3 => (H.2.1 hc3), fun hc3 => (H.2.2 hc3)⟩
set_option maxRecDepth 20000 in
theorem vc_X11_chases_73 {R : Mem → Option AV → Prop} {k d : Int} {μ : Mem} (H : r32 d ∧ r32 k ∧ ((k ≤ d) → (0 ≤ k ∧ k < 6) ∧ r64 (μ 224 k) ∧ r64 (μ 201 42) ∧ (((μ 224 k) ≤ (μ 201 42)) → V_X11_chases R 143 [(0, kR 201), (1, kI k), (2, kI (k - 1))] μ) ∧ (¬ ((μ 224 k) ≤ (μ 201 42)) → (0 ≤ k ∧ k < 6) ∧ V_X11_chases R 114 [(0, kR 201), (1, kI k)] (updm μ 201 42 (μ 224 k)))) ∧ (¬ (k ≤ d) → P_X11_goesBy 201 d k μ ∧ (∀ (μ5 : Mem), Q_X11_goesBy 201 d k μ μ5 → V_X11_chases R 84 [(0, kR 201), (1, kI k), (3, kI d)] μ5))) : V_X11_chases R 73 [(0, kR 201), (1, kI k), (3, kI d)] μ := by
  refine vm_step2 mt_X11_chases ok_X11_chases [(2, [0, 1, 2]), (25, [0, 1, 2]), (33, [0, 1, 2]), (45, [0, 1, 2]), (58, [0, 1]), (65, [0, 1]), (67, [0, 1, 2]), (73, [0, 1, 3]), (84, [0, 1, 3]), (114, [0, 1]), (116, [0, 1, 3]), (133, [0, 1, 3]), (143, [0, 1, 2]), (169, [0, 1, 2]), (189, [0, 1, 2])] 1000 ?_
  show (r32 d ∧ r32 k) ∧ ((k ≤ d) → isC 201 11 ∧ inA 224 1 k ∧ isC 201 11 ∧ (r64 (μ 224 k) ∧ r64 (μ 201 42)) ∧ r32 (lcm3 (μ 224 k) (μ 201 42)) ∧ ((lcm3 (μ 224 k) (μ 201 42) ≤ 0) → V_X11_chases R 143 [(0, kR 201), (1, kI k), (2, kI (k - 1))] μ) ∧ (¬ (lcm3 (μ 224 k) (μ 201 42) ≤ 0) → isC 201 11 ∧ inA 224 1 k ∧ isC 201 11 ∧ 1 = 1 ∧ True ∧ V_X11_chases R 114 [(0, kR 201), (1, kI k)] (updm μ 201 42 (μ 224 k)))) ∧ (¬ (k ≤ d) → isC 201 11 ∧ P_X11_goesBy 201 d k μ ∧ (∀ (μ5 : Mem), Q_X11_goesBy 201 d k μ μ5 → V_X11_chases R 84 [(0, kR 201), (1, kI k), (3, kI d)] μ5))
  exact ⟨⟨H.1, H.2.1⟩, fun hc8 => ⟨c_201, ⟨isArr.in a_224 (H.2.2.1 hc8).1.1 (H.2.2.1 hc8).1.2, ⟨c_201, ⟨⟨(H.2.2.1 hc8).2.1, (H.2.2.1 hc8).2.2.1⟩, lcm3_r _ _, fun hc4 => ((H.2.2.1 hc8).2.2.2.1 (lcm_le.mp hc4)), fun hc4 => ⟨c_201, ⟨isArr.in a_224 ((H.2.2.1 hc8).2.2.2.2 (fun q => hc4 (lcm_le.mpr q))).1.1 ((H.2.2.1 hc8).2.2.2.2 (fun q => hc4 (lcm_le.mpr q))).1.2, ⟨c_201, rfl, trivial, ((H.2.2.1 hc8).2.2.2.2 (fun q => hc4 (lcm_le.mpr q))).2⟩⟩⟩⟩⟩⟩⟩, fun hc8 => ⟨c_201, (H.2.2.2 hc8).1, fun μ5 hq7 => ((H.2.2.2 hc8).2 μ5 hq7)⟩⟩
set_option maxRecDepth 20000 in
theorem vc_X11_chases_84 {R : Mem → Option AV → Prop} {k d : Int} {μ : Mem} (H : V_X11_chases R 73 [(0, kR 201), (1, kI k), (3, kI (d + 1))] μ) : V_X11_chases R 84 [(0, kR 201), (1, kI k), (3, kI d)] μ := by
  refine vm_step2 mt_X11_chases ok_X11_chases [(2, [0, 1, 2]), (25, [0, 1, 2]), (33, [0, 1, 2]), (45, [0, 1, 2]), (58, [0, 1]), (65, [0, 1]), (67, [0, 1, 2]), (73, [0, 1, 3]), (84, [0, 1, 3]), (114, [0, 1]), (116, [0, 1, 3]), (133, [0, 1, 3]), (143, [0, 1, 2]), (169, [0, 1, 2]), (189, [0, 1, 2])] 1000 ?_
  show V_X11_chases R 73 [(0, kR 201), (1, kI k), (3, kI (d + 1))] μ
  exact H
set_option maxRecDepth 20000 in
theorem vc_X11_chases_114 {R : Mem → Option AV → Prop} {k : Int} {μ : Mem} (H : V_X11_chases R 116 [(0, kR 201), (1, kI k), (3, kI 0)] μ) : V_X11_chases R 114 [(0, kR 201), (1, kI k)] μ := by
  refine vm_step2 mt_X11_chases ok_X11_chases [(2, [0, 1, 2]), (25, [0, 1, 2]), (33, [0, 1, 2]), (45, [0, 1, 2]), (58, [0, 1]), (65, [0, 1]), (67, [0, 1, 2]), (73, [0, 1, 3]), (84, [0, 1, 3]), (114, [0, 1]), (116, [0, 1, 3]), (133, [0, 1, 3]), (143, [0, 1, 2]), (169, [0, 1, 2]), (189, [0, 1, 2])] 1000 ?_
  show V_X11_chases R 116 [(0, kR 201), (1, kI k), (3, kI 0)] μ
  exact H
set_option maxRecDepth 20000 in
theorem vc_X11_chases_116 {R : Mem → Option AV → Prop} {k d : Int} {μ : Mem} (H : r32 d ∧ r32 k ∧ ((k ≤ d) → V_X11_chases R 143 [(0, kR 201), (1, kI k), (2, kI (k - 1))] μ) ∧ (¬ (k ≤ d) → (0 ≤ d ∧ d < 5) ∧ (0 ≤ d ∧ d < 5) ∧ V_X11_chases R 133 [(0, kR 201), (1, kI k), (3, kI d)] (updm μ 226 d (μ 225 d)))) : V_X11_chases R 116 [(0, kR 201), (1, kI k), (3, kI d)] μ := by
  refine vm_step2 mt_X11_chases ok_X11_chases [(2, [0, 1, 2]), (25, [0, 1, 2]), (33, [0, 1, 2]), (45, [0, 1, 2]), (58, [0, 1]), (65, [0, 1]), (67, [0, 1, 2]), (73, [0, 1, 3]), (84, [0, 1, 3]), (114, [0, 1]), (116, [0, 1, 3]), (133, [0, 1, 3]), (143, [0, 1, 2]), (169, [0, 1, 2]), (189, [0, 1, 2])] 1000 ?_
  show (r32 d ∧ r32 k) ∧ ((k ≤ d) → V_X11_chases R 143 [(0, kR 201), (1, kI k), (2, kI (k - 1))] μ) ∧ (¬ (k ≤ d) → isC 201 11 ∧ isC 201 11 ∧ inA 225 0 d ∧ inA 226 0 d ∧ V_X11_chases R 133 [(0, kR 201), (1, kI k), (3, kI d)] (updm μ 226 d (μ 225 d)))
  exact ⟨⟨H.1, H.2.1⟩, fun hc9 => (H.2.2.1 hc9), fun hc9 => ⟨c_201, ⟨c_201, ⟨isArr.in a_225 (H.2.2.2 hc9).1.1 (H.2.2.2 hc9).1.2, ⟨isArr.in a_226 (H.2.2.2 hc9).2.1.1 (H.2.2.2 hc9).2.1.2, (H.2.2.2 hc9).2.2⟩⟩⟩⟩⟩
set_option maxRecDepth 20000 in
theorem vc_X11_chases_133 {R : Mem → Option AV → Prop} {k d : Int} {μ : Mem} (H : V_X11_chases R 116 [(0, kR 201), (1, kI k), (3, kI (d + 1))] μ) : V_X11_chases R 133 [(0, kR 201), (1, kI k), (3, kI d)] μ := by
  refine vm_step2 mt_X11_chases ok_X11_chases [(2, [0, 1, 2]), (25, [0, 1, 2]), (33, [0, 1, 2]), (45, [0, 1, 2]), (58, [0, 1]), (65, [0, 1]), (67, [0, 1, 2]), (73, [0, 1, 3]), (84, [0, 1, 3]), (114, [0, 1]), (116, [0, 1, 3]), (133, [0, 1, 3]), (143, [0, 1, 2]), (169, [0, 1, 2]), (189, [0, 1, 2])] 1000 ?_
  show V_X11_chases R 116 [(0, kR 201), (1, kI k), (3, kI (d + 1))] μ
  exact H
set_option maxRecDepth 20000 in
theorem vc_X11_chases_143 {R : Mem → Option AV → Prop} {k fm : Int} {μ : Mem} (H : r32 fm ∧ ((fm < 0) → r32 fm ∧ ((fm < 0) → V_X11_chases R 67 [(0, kR 201), (1, kI k), (2, kI fm)] μ) ∧ (¬ (fm < 0) → (0 ≤ fm ∧ fm < 5) ∧ (0 ≤ fm ∧ fm < 5) ∧ V_X11_chases R 189 [(0, kR 201), (1, kI k), (2, kI fm)] (updm μ 225 fm ((μ 225 fm) + 1)))) ∧ (¬ (fm < 0) → (0 ≤ fm ∧ fm < 5) ∧ r32 (μ 225 fm) ∧ r32 ((μ 201 13) - 1) ∧ ((¬ (μ 225 fm) = ((μ 201 13) - 1)) → r32 fm ∧ ((fm < 0) → V_X11_chases R 67 [(0, kR 201), (1, kI k), (2, kI fm)] μ) ∧ (¬ (fm < 0) → (0 ≤ fm ∧ fm < 5) ∧ (0 ≤ fm ∧ fm < 5) ∧ V_X11_chases R 189 [(0, kR 201), (1, kI k), (2, kI fm)] (updm μ 225 fm ((μ 225 fm) + 1)))) ∧ (¬ (¬ (μ 225 fm) = ((μ 201 13) - 1)) → (0 ≤ fm ∧ fm < 5) ∧ V_X11_chases R 169 [(0, kR 201), (1, kI k), (2, kI fm)] (updm μ 225 fm 0)))) : V_X11_chases R 143 [(0, kR 201), (1, kI k), (2, kI fm)] μ := by
  refine vm_step2 mt_X11_chases ok_X11_chases [(2, [0, 1, 2]), (25, [0, 1, 2]), (33, [0, 1, 2]), (45, [0, 1, 2]), (58, [0, 1]), (65, [0, 1]), (67, [0, 1, 2]), (73, [0, 1, 3]), (84, [0, 1, 3]), (114, [0, 1]), (116, [0, 1, 3]), (133, [0, 1, 3]), (143, [0, 1, 2]), (169, [0, 1, 2]), (189, [0, 1, 2])] 1000 ?_
  show r32 fm ∧ ((fm < 0) → r32 fm ∧ ((fm < 0) → V_X11_chases R 67 [(0, kR 201), (1, kI k), (2, kI fm)] μ) ∧ (¬ (fm < 0) → isC 201 11 ∧ inA 225 0 fm ∧ inA 225 0 fm ∧ V_X11_chases R 189 [(0, kR 201), (1, kI k), (2, kI fm)] (updm μ 225 fm ((μ 225 fm) + 1)))) ∧ (¬ (fm < 0) → isC 201 11 ∧ inA 225 0 fm ∧ isC 201 11 ∧ (r32 (μ 225 fm) ∧ r32 ((μ 201 13) - 1)) ∧ ((¬ (μ 225 fm) = ((μ 201 13) - 1)) → r32 fm ∧ ((fm < 0) → V_X11_chases R 67 [(0, kR 201), (1, kI k), (2, kI fm)] μ) ∧ (¬ (fm < 0) → isC 201 11 ∧ inA 225 0 fm ∧ inA 225 0 fm ∧ V_X11_chases R 189 [(0, kR 201), (1, kI k), (2, kI fm)] (updm μ 225 fm ((μ 225 fm) + 1)))) ∧ (¬ (¬ (μ 225 fm) = ((μ 201 13) - 1)) → isC 201 11 ∧ inA 225 0 fm ∧ V_X11_chases R 169 [(0, kR 201), (1, kI k), (2, kI fm)] (updm μ 225 fm 0)))
  exact ⟨H.1, fun hc13 => ⟨(H.2.1 hc13).1, fun hc10 => ((H.2.1 hc13).2.1 hc10), fun hc10 => ⟨c_201, ⟨isArr.in a_225 ((H.2.1 hc13).2.2 hc10).1.1 ((H.2.1 hc13).2.2 hc10).1.2, ⟨isArr.in a_225 ((H.2.1 hc13).2.2 hc10).2.1.1 ((H.2.1 hc13).2.2 hc10).2.1.2, ((H.2.1 hc13).2.2 hc10).2.2⟩⟩⟩⟩, fun hc13 => ⟨c_201, ⟨isArr.in a_225 (H.2.2 hc13).1.1 (H.2.2 hc13).1.2, ⟨c_201, ⟨⟨(H.2.2 hc13).2.1, (H.2.2 hc13).2.2.1⟩, fun hc12 => ⟨((H.2.2 hc13).2.2.2.1 hc12).1, fun hc11 => (((H.2.2 hc13).2.2.2.1 hc12).2.1 hc11), fun hc11 => ⟨c_201, ⟨isArr.in a_225 (((H.2.2 hc13).2.2.2.1 hc12).2.2 hc11).1.1 (((H.2.2 hc13).2.2.2.1 hc12).2.2 hc11).1.2, ⟨isArr.in a_225 (((H.2.2 hc13).2.2.2.1 hc12).2.2 hc11).2.1.1 (((H.2.2 hc13).2.2.2.1 hc12).2.2 hc11).2.1.2, (((H.2.2 hc13).2.2.2.1 hc12).2.2 hc11).2.2⟩⟩⟩⟩, fun hc12 => ⟨c_201, ⟨isArr.in a_225 ((H.2.2 hc13).2.2.2.2 hc12).1.1 ((H.2.2 hc13).2.2.2.2 hc12).1.2, ((H.2.2 hc13).2.2.2.2 hc12).2⟩⟩⟩⟩⟩⟩⟩
set_option maxRecDepth 20000 in
theorem vc_X11_chases_169 {R : Mem → Option AV → Prop} {k fm : Int} {μ : Mem} (H : V_X11_chases R 143 [(0, kR 201), (1, kI k), (2, kI (fm + (-1)))] μ) : V_X11_chases R 169 [(0, kR 201), (1, kI k), (2, kI fm)] μ := by
  refine vm_step2 mt_X11_chases ok_X11_chases [(2, [0, 1, 2]), (25, [0, 1, 2]), (33, [0, 1, 2]), (45, [0, 1, 2]), (58, [0, 1]), (65, [0, 1]), (67, [0, 1, 2]), (73, [0, 1, 3]), (84, [0, 1, 3]), (114, [0, 1]), (116, [0, 1, 3]), (133, [0, 1, 3]), (143, [0, 1, 2]), (169, [0, 1, 2]), (189, [0, 1, 2])] 1000 ?_
  show V_X11_chases R 143 [(0, kR 201), (1, kI k), (2, kI (fm + (-1)))] μ
  exact H
set_option maxRecDepth 20000 in
theorem vc_X11_chases_189 {R : Mem → Option AV → Prop} {k fm : Int} {μ : Mem} (H : V_X11_chases R 67 [(0, kR 201), (1, kI k), (2, kI fm)] μ) : V_X11_chases R 189 [(0, kR 201), (1, kI k), (2, kI fm)] μ := by
  refine vm_step2 mt_X11_chases ok_X11_chases [(2, [0, 1, 2]), (25, [0, 1, 2]), (33, [0, 1, 2]), (45, [0, 1, 2]), (58, [0, 1]), (65, [0, 1]), (67, [0, 1, 2]), (73, [0, 1, 3]), (84, [0, 1, 3]), (114, [0, 1]), (116, [0, 1, 3]), (133, [0, 1, 3]), (143, [0, 1, 2]), (169, [0, 1, 2]), (189, [0, 1, 2])] 1000 ?_
  show V_X11_chases R 67 [(0, kR 201), (1, kI k), (2, kI fm)] μ
  exact H
theorem body_X11_chases {o k : Int} {μ : Mem} {R : Mem → Option AV → Prop} (h : P_X11_chases o k μ) (hR : ∀ μ' : Mem, Q_X11_chases o k μ μ' → R μ' none) : V_X11_chases R 0 [(0, kR o), (1, kI k)] μ := by
  obtain ⟨rfl, hb, hk⟩ := h
  have ok := hb.v
  have hp := hb.p
  have hpe := hb.2.1
  have cal := hb.2.2.2.2.1
  rw [hpe] at hp
  obtain ⟨p, hpp⟩ : ∃ p : Int, p = vm μ 0 0 := ⟨_, rfl⟩
  obtain ⟨v, hv⟩ : ∃ v : TV, v = vm μ := ⟨_, rfl⟩
  obtain ⟨F, eF⟩ : ∃ F : Mem → Prop, ∀ m, F m = ((∀ z : Int, z ≠ 201 → (z < 223 ∨ 226 < z) → m z = μ z) ∧ ∀ f : Int, f ≠ 42 → m 201 f = μ 201 f) := ⟨_, fun _ => rfl⟩
  have Fput : ∀ (m : Mem) (o j w : Int), F m → 223 ≤ o → o ≤ 226 → F (updm m o j w) := fun m o j w hf o0 o1 => by
    rw [eF] at hf ⊢
    exact ⟨fun z z0 z1 => by rw [ru_ne (by omega), hf.1 z z0 z1], fun f hf' => by rw [ru_ne (by omega), hf.2 f hf']⟩
  have fr : ∀ m : Mem, F m → MB m ∧ vm m = v ∧ m 201 13 = p := fun m hf => by
    rw [eF] at hf
    obtain ⟨mb, ev⟩ := MB_frame hb (hf.1 202 (by omega) (by omega)) (hf.2 12 (by omega)) (hf.2 13 (by omega))
    exact ⟨mb, ev.trans hv.symm, by rw [hf.2 13 (by omega), hpe, hpp]⟩
  rw [← hpp] at hpe hp
  rw [← hv] at ok cal
  have hv0 : v 0 0 = p := by rw [hv, hpp]
  obtain ⟨D, eD⟩ : ∃ D : Mem → Int → Prop, ∀ m d, D m d = ((∀ a : Int, 0 ≤ a → a < p → m 223 (8 * d + a) = lieV v (m 225) d a) ∧ m 224 d = cgV v k (m 225) d) := ⟨_, fun _ _ => rfl⟩
  obtain ⟨B, eB⟩ : ∃ B : Mem → Int → Prop, ∀ m n, B m n = (m 201 42 = (chaF v k n).1 ∧ (0 < n → ∀ j : Int, 0 ≤ j → j < k → m 226 j = dg p k.toNat (chaF v k n).2 j)) := ⟨_, fun _ _ => rfl⟩
  have hkn : ((k.toNat : Nat) : Int) = k := Int.toNat_of_nonneg (by omega)
  -- a row of days after the other
  have main : ∀ n : Int, 0 ≤ n → n ≤ pw p k → ∀ (m : Mem) (fm : Int), F m → B m n → (∀ j : Int, 0 ≤ j → j < k → 0 ≤ m 225 j ∧ m 225 j < p) → nv p (m 225) k = n → 0 ≤ fm → fm < k → (∀ d : Int, 0 ≤ d → d ≤ fm → D m d) → V_X11_chases R 67 [(0, kR 201), (1, kI k), (2, kI fm)] m := by
    refine up_ind (P := fun n => ∀ (m : Mem) (fm : Int), F m → B m n → (∀ j : Int, 0 ≤ j → j < k → 0 ≤ m 225 j ∧ m 225 j < p) → nv p (m 225) k = n → 0 ≤ fm → fm < k → (∀ d : Int, 0 ≤ d → d ≤ fm → D m d) → V_X11_chases R 67 [(0, kR 201), (1, kI k), (2, kI fm)] m) ?_ ?_
    · intro n n0 n1 ih m fm hF hB hr hn f0 f1 hD
      obtain ⟨r, er⟩ : ∃ r : Int → Int, r = m 225 := ⟨_, rfl⟩
      rw [← er] at hr hn
      have htot : totV v k (dg (v 0 0) k.toNat n) = totV v k r := totV_congr hk.1 (fun j j0 j1 => by rw [hv0, ← hn, ← hkn, Int.toNat_natCast]; exact dg_nv (by omega) _ (fun j j0 j1 => hr j j0 (by omega)) j j0 (by omega))
      have tb := totV_bd ok cal (r := r) hk.1 hk.2 (fun j j0 j1 => by rw [hv0]; exact hr j j0 j1)
      have cb := chaF_bd ok cal (n := n) hk.1 hk.2 n0
      have cs := chaF_s (v := v) (k := k) n0
      rw [htot] at cs
      -- the next row
      have turn : ∀ (m : Mem), F m → B m (n + 1) → m 225 = r → (∀ d : Int, 0 ≤ d → d < k → D m d) → V_X11_chases R 143 [(0, kR 201), (1, kI k), (2, kI (k - 1))] m := by
        have key : ∀ (c : Nat) (m : Mem), (c : Int) ≤ k → F m → B m (n + 1) → (∀ j : Int, j < c → m 225 j = r j) → (∀ j : Int, (c : Int) ≤ j → j < k → r j = p - 1 ∧ m 225 j = 0) → (∀ d : Int, 0 ≤ d → d < c → D m d) → V_X11_chases R 143 [(0, kR 201), (1, kI k), (2, kI ((c : Int) - 1))] m := by
          intro c
          induction c with
          | zero =>
            intro m _ hF hB _ hl _
            have hlast := nv_last (p := p) (r := r) (m := k) (by omega) (fun j j0 j1 => (hl j (by omega) j1).1)
            refine vc_X11_chases_143 ⟨rr (by omega), fun _ => ⟨rr (by omega), fun _ => ?_, fun q => absurd (by omega) q⟩, fun q => absurd (by omega) q⟩
            refine vc_X11_chases_67 ⟨rr (by omega), fun _ => hR m ?_, fun q => absurd (by omega) q⟩
            have eN : n + 1 = pw p (k - 1) * p := by
              rw [← pw_s (by omega), show k - 1 + 1 = k by omega]
              omega
            rw [eB, eN] at hB
            rw [eF] at hF
            unfold Q_X11_chases chaV
            rw [← hv, hv0]
            exact ⟨hB.1, hB.2 (by omega), fun f hf => hF.2 f (fun q => hf (by rw [q]; exact List.mem_singleton.mpr rfl)), hF.1⟩
          | succ c ihc =>
            intro m hck hF hB hb' hl hD
            obtain ⟨mb, ev, e13⟩ := fr m hF
            have ec : ((c + 1 : Nat) : Int) - 1 = (c : Int) := by omega
            rw [ec]
            have hrc := hr c (by omega) (by omega)
            have emc := hb' c (by omega)
            refine vc_X11_chases_143 ?_
            rw [e13, emc]
            have inc : r c ≠ p - 1 → V_X11_chases R 189 [(0, kR 201), (1, kI k), (2, kI c)] (updm m 225 c (r c + 1)) := fun q => by
              have hb225 : ∀ j : Int, j < c → (updm m 225 c (r c + 1)) 225 j = r j := fun j hj => by rw [ru_eq, r1_ne (by omega), hb' j (by omega)]
              refine vc_X11_chases_189 (ih _ c (Fput m 225 c _ hF (by omega) (by omega)) ?_ (fun j j0 j1 => ?_) ?_ (by omega) (by omega) (fun d d0 d1 => ?_))
              · rw [eB] at hB ⊢
                exact ⟨by rw [ru_ne (by omega)]; exact hB.1, fun g j j0 j1 => by rw [ru_ne (by omega)]; exact hB.2 g j j0 j1⟩
              · rw [ru_eq]
                by_cases e : j = c
                · rw [e, r1_eq]; omega
                · rw [r1_ne e]
                  rcases (by omega : j < c ∨ c < j) with g | g
                  · rw [hb' j (by omega)]; exact hr j j0 j1
                  · rw [(hl j (by omega) j1).2]; omega
              · rw [nv_next (p := p) (r := r) (c := c) (m := k) (by omega) (by omega) (by rw [ru_eq, r1_eq]) hb225 (fun j j0 j1 => ⟨(hl j (by omega) j1).1, by rw [ru_eq, r1_ne (by omega), (hl j (by omega) j1).2]⟩), hn]
              · have hd := hD d d0 (by omega)
                rw [eD] at hd ⊢
                have cong : ∀ j, 0 ≤ j → j < d → (updm m 225 c (r c + 1)) 225 j = m 225 j := fun j _ j1 => by rw [hb225 j (by omega), hb' j (by omega)]
                refine ⟨fun a a0 a1 => ?_, ?_⟩
                · rw [ru_ne (by omega), lieV_congr cong]; exact hd.1 a a0 a1
                · rw [ru_ne (by omega), hd.2]
                  unfold cgV
                  rw [if_neg (by omega), if_neg (by omega), fbV_congr cong]
            refine ⟨rr (by omega), fun q => absurd q (by omega), fun _ => ⟨by omega, rr (by omega), rr (by omega), fun q => ⟨rr (by omega), fun g => absurd g (by omega), fun _ => ⟨by omega, by omega, inc q⟩⟩, fun q => ⟨by omega, vc_X11_chases_169 ?_⟩⟩⟩
            have hq := Classical.not_not.mp q
            have nx := ihc (updm m 225 c 0) (by omega) (Fput m 225 c 0 hF (by omega) (by omega)) (by
              rw [eB] at hB ⊢
              exact ⟨by rw [ru_ne (by omega)]; exact hB.1, fun g j j0 j1 => by rw [ru_ne (by omega)]; exact hB.2 g j j0 j1⟩) (fun j hj => by rw [ru_eq, r1_ne (by omega), hb' j (by omega)]) (fun j j0 j1 => by
              by_cases e : j = c
              · rw [e, ru_eq, r1_eq]; exact ⟨hq, rfl⟩
              · rw [ru_eq, r1_ne e]; exact hl j (by omega) j1) (fun d d0 d1 => by
              have hd := hD d d0 (by omega)
              rw [eD] at hd ⊢
              have cong : ∀ j, 0 ≤ j → j < d → (updm m 225 c 0) 225 j = m 225 j := fun j _ j1 => by rw [ru_eq, r1_ne (by omega)]
              refine ⟨fun a a0 a1 => ?_, ?_⟩
              · rw [ru_ne (by omega), lieV_congr cong]; exact hd.1 a a0 a1
              · rw [ru_ne (by omega), hd.2]
                unfold cgV
                rw [if_neg (by omega), if_neg (by omega), fbV_congr cong])
            exact nx
        intro m hF hB h225 hD
        have := key k.toNat m (by omega) hF hB (fun j _ => by rw [h225]) (fun j j0 j1 => absurd j1 (by omega)) (fun d d0 d1 => hD d d0 (by omega))
        rw [hkn] at this
        exact this
      -- the days of this row
      have days : ∀ d : Int, fm ≤ d → d ≤ k → ∀ m : Mem, F m → B m n → m 225 = r → (∀ e : Int, 0 ≤ e → e ≤ d → D m e) → V_X11_chases R 73 [(0, kR 201), (1, kI k), (3, kI d)] m := by
        refine up_ind (P := fun d => ∀ m : Mem, F m → B m n → m 225 = r → (∀ e : Int, 0 ≤ e → e ≤ d → D m e) → V_X11_chases R 73 [(0, kR 201), (1, kI k), (3, kI d)] m) ?_ ?_
        · intro d d0 d1 ihd m hF hB h225 hD
          obtain ⟨mb, ev, e13⟩ := fr m hF
          refine vc_X11_chases_73 ⟨rr (by omega), rr (by omega), fun q => absurd q (by omega), fun _ => ⟨⟨rfl, mb, by omega, ?_⟩, fun m5 q => ?_⟩⟩
          · rw [h225, ev, hv0]; exact hr d (by omega) d1
          · obtain ⟨q1, q2, q3, q4, q5⟩ := q
            rw [ev] at q1 q2
            have e5 : m5 225 = r := by rw [q5 225 (by omega) (by omega), h225]
            refine vc_X11_chases_84 (ihd m5 ?_ ?_ e5 (fun e e0 e1 => ?_))
            · rw [eF] at hF ⊢
              exact ⟨fun z z0 z1 => by rw [q5 z (by omega) (by omega), hF.1 z z0 z1], fun f hf => by rw [q5 201 (by omega) (by omega), hF.2 f hf]⟩
            · rw [eB] at hB ⊢
              rw [q5 201 (by omega) (by omega), q5 226 (by omega) (by omega)]
              exact hB
            · by_cases ee : e = d + 1
              · have hd := hD d (by omega) (Int.le_refl d)
                rw [eD] at hd ⊢
                rw [h225] at hd q1 q2
                subst ee
                refine ⟨fun a a0 a1 => ?_, ?_⟩
                · rw [q1 a a0 (by rw [hv0]; exact a1), e5, lieV_s (by omega)]
                  exact lieS_congr (fun b b0 b1 => hd.1 b b0 (by omega)) a
                · have hrd := hr d (by omega) d1
                  rw [q2, e5, cgV_s (by omega) d1 hk.2, hd.2, hd.1 _ hrd.1 hrd.2]
              · have hd := hD e e0 (by omega)
                rw [eD] at hd ⊢
                rw [e5, ← h225]
                exact ⟨fun a a0 a1 => by rw [q3 _ (by omega)]; exact hd.1 a a0 a1, by rw [q4 e ee]; exact hd.2⟩
        · intro m hF hB h225 hD
          obtain ⟨mb, ev, e13⟩ := fr m hF
          have hdk := hD k (by omega) (Int.le_refl k)
          have hB1 := hB
          rw [eB] at hB1
          rw [eD] at hdk
          have e224 : m 224 k = totV v k r := by rw [hdk.2, h225]; unfold cgV; rw [if_pos rfl]
          refine vc_X11_chases_73 ?_
          rw [e224, hB1.1]
          refine ⟨rr (by omega), rr (by omega), fun _ => ⟨by omega, rl (by omega), rl (by omega), fun c => ?_, fun c => ⟨by omega, ?_⟩⟩, fun q => absurd (Int.le_refl k) q⟩
          · refine turn m hF ?_ h225 (fun d d0 d1 => hD d d0 (by omega))
            rw [eB, cs, if_neg (by omega)]
            exact ⟨hB1.1, fun _ => hB1.2 (Classical.byContradiction fun q => by
              have e : n = 0 := by omega
              rw [e] at c
              have : (chaF v k 0).1 = -1 := rfl
              omega)⟩
          · rw [if_pos (by omega)] at cs
            have copy : ∀ d : Int, 0 ≤ d → d ≤ k → ∀ m : Mem, F m → m 201 42 = totV v k r → m 225 = r → (∀ e : Int, 0 ≤ e → e < k → D m e) → (∀ j : Int, 0 ≤ j → j < d → m 226 j = r j) → V_X11_chases R 116 [(0, kR 201), (1, kI k), (3, kI d)] m := by
              refine up_ind (P := fun d => ∀ m : Mem, F m → m 201 42 = totV v k r → m 225 = r → (∀ e : Int, 0 ≤ e → e < k → D m e) → (∀ j : Int, 0 ≤ j → j < d → m 226 j = r j) → V_X11_chases R 116 [(0, kR 201), (1, kI k), (3, kI d)] m) ?_ ?_
              · intro d d0 d1 ihd m hF h42 h225 hD h226
                refine vc_X11_chases_116 ⟨rr (by omega), rr (by omega), fun q => absurd q (by omega), fun _ => ⟨by omega, by omega, vc_X11_chases_133 (ihd _ (Fput m 226 d _ hF (by omega) (by omega)) (by rw [ru_ne (by omega)]; exact h42) (by rw [ru_ne (by omega)]; exact h225) (fun e e0 e1 => ?_) (fun j j0 j1 => ?_))⟩⟩
                · have hd := hD e e0 e1
                  rw [eD] at hd ⊢
                  rw [ru_ne (by omega), ru_ne (by omega), ru_ne (by omega)]
                  exact hd
                · rw [ru_eq]
                  by_cases e : j = d
                  · rw [e, r1_eq, h225]
                  · rw [r1_ne e]; exact h226 j j0 (by omega)
              · intro m hF h42 h225 hD h226
                refine vc_X11_chases_116 ⟨rr (by omega), rr (by omega), fun _ => turn m hF ?_ h225 hD, fun q => absurd (Int.le_refl k) q⟩
                rw [eB, cs]
                refine ⟨h42, fun _ j j0 j1 => ?_⟩
                rw [h226 j j0 j1]
                show r j = dg p k.toNat n j
                rw [← hn, ← hkn, Int.toNat_natCast]
                exact (dg_nv (by omega) _ (fun j j0 j1 => hr j j0 (by omega)) j j0 (by omega)).symm
            refine vc_X11_chases_114 (copy 0 (by omega) (by omega) _ ?_ (by rw [ru_eq, r1_eq]) (by rw [ru_ne (by omega)]; exact h225) (fun e e0 e1 => ?_) (fun j j0 j1 => absurd j0 (by omega)))
            · rw [eF] at hF ⊢
              exact ⟨fun z z0 z1 => by rw [ru_ne z0, hF.1 z z0 z1], fun f hf => by rw [ru_eq, r1_ne hf, hF.2 f hf]⟩
            · have hd := hD e e0 (by omega)
              rw [eD] at hd ⊢
              rw [ru_ne (by omega), ru_ne (by omega), ru_ne (by omega)]
              exact hd
      exact vc_X11_chases_67 ⟨rr (by omega), fun q => absurd q (by omega), fun _ => days fm (Int.le_refl _) (by omega) m hF hB er.symm hD⟩
    · intro m fm hF hB hr hn
      have := nv_bd (p := p) (r := m 225) (by omega) (m := k) (by omega) hr
      omega
  have p1 : ∀ d : Int, 0 ≤ d → d ≤ k → ∀ m : Mem, F m → (∀ j : Int, 0 ≤ j → j < p → m 223 j = v 4 j) → (∀ j : Int, 0 ≤ j → j < d → m 225 j = 0) → V_X11_chases R 33 [(0, kR 201), (1, kI k), (2, kI d)] m := by
    refine up_ind (P := fun d => ∀ m : Mem, F m → (∀ j : Int, 0 ≤ j → j < p → m 223 j = v 4 j) → (∀ j : Int, 0 ≤ j → j < d → m 225 j = 0) → V_X11_chases R 33 [(0, kR 201), (1, kI k), (2, kI d)] m) ?_ ?_
    · intro d d0 d1 ih m hF h3 h5
      refine vc_X11_chases_33 ⟨rr (by omega), rr (by omega), fun q => absurd q (by omega), fun _ => ⟨by omega, vc_X11_chases_45 (ih _ (Fput m 225 d 0 hF (by omega) (by omega)) (fun j j0 j1 => by rw [ru_ne (by omega)]; exact h3 j j0 j1) (fun j j0 j1 => ?_))⟩⟩
      rw [ru_eq]
      by_cases e : j = d
      · rw [e, r1_eq]
      · rw [r1_ne e]; exact h5 j j0 (by omega)
    · intro m hF h3 h5
      refine vc_X11_chases_33 ⟨rr (by omega), rr (by omega), fun _ => vc_X11_chases_58 (vc_X11_chases_65 (main 0 (by omega) (by have := pw_bd (p := p) (by omega) hp.2 (m := k - 1) (by omega) (by omega); have e := pw_s (p := p) (m := k - 1) (by omega); rw [show k - 1 + 1 = k by omega] at e; have := Int.mul_pos (show 0 < pw p (k - 1) by omega) (show 0 < p by omega); omega) _ 0 ?_ ?_ (fun j j0 j1 => ?_) ?_ (by omega) (by omega) (fun d d0 d1 => ?_))), fun q => absurd (Int.le_refl k) q⟩
      · have hF2 := Fput m 224 0 0 hF (by omega) (by omega)
        rw [eF] at hF2 ⊢
        exact ⟨fun z z0 z1 => by rw [ru_ne z0, hF2.1 z z0 z1], fun f hf => by rw [ru_eq, r1_ne hf, hF2.2 f hf]⟩
      · rw [eB]
        exact ⟨by rw [ru_eq, r1_eq]; rfl, fun q => absurd q (by omega)⟩
      · rw [ru_ne (by omega), ru_ne (by omega), h5 j j0 j1]; omega
      · rw [ru_ne (by omega), ru_ne (by omega)]
        exact nv_zero (by omega) h5
      · have e : d = 0 := by omega
        subst e
        rw [eD]
        refine ⟨fun a a0 a1 => ?_, ?_⟩
        · rw [ru_ne (by omega), ru_ne (by omega), show 8 * (0 : Int) + a = a by omega, h3 a a0 a1]
          rfl
        · rw [ru_ne (by omega), ru_eq, r1_eq]
          unfold cgV
          rw [if_neg (by omega)]
          show (0 : Int) = 0 * _
          rw [Int.zero_mul]
  have p0 : ∀ a : Int, 0 ≤ a → a ≤ p → ∀ m : Mem, F m → (∀ j : Int, 0 ≤ j → j < a → m 223 j = v 4 j) → V_X11_chases R 2 [(0, kR 201), (1, kI k), (2, kI a)] m := by
    refine up_ind (P := fun a => ∀ m : Mem, F m → (∀ j : Int, 0 ≤ j → j < a → m 223 j = v 4 j) → V_X11_chases R 2 [(0, kR 201), (1, kI k), (2, kI a)] m) ?_ ?_
    · intro a a0 a1 ih m hF h3
      obtain ⟨mb, ev, e13⟩ := fr m hF
      have h4 := (ok.2.2.2.1 a a0 (by omega)).1
      refine vc_X11_chases_2 ?_
      rw [e13, of_4 a0 (by omega), ev]
      refine ⟨rr (by omega), rr (by omega), fun c => absurd c (by omega), fun _ => ⟨⟨rfl, mb.1, by omega, by omega⟩, rr (by omega), by omega, vc_X11_chases_25 (ih _ (Fput m 223 a _ hF (by omega) (by omega)) (fun j j0 j1 => ?_))⟩⟩
      rw [ru_eq]
      by_cases e : j = a
      · rw [e, r1_eq]
      · rw [r1_ne e]; exact h3 j j0 (by omega)
    · intro m hF h3
      obtain ⟨mb, ev, e13⟩ := fr m hF
      refine vc_X11_chases_2 ?_
      rw [e13]
      exact ⟨rr (by omega), rr (by omega), fun _ => p1 0 (by omega) (by omega) m hF h3 (fun j j0 j1 => absurd j0 (by omega)), fun c => absurd (Int.le_refl _) c⟩
  refine vc_X11_chases_0 (p0 0 (by omega) (by omega) μ ?_ (fun j j0 j1 => absurd j0 (by omega)))
  rw [eF]
  exact ⟨fun _ _ _ => rfl, fun _ _ => rfl⟩
theorem ct_X11_chases : Ct mX11_chases 2 52 0 0 (nrmS S_X11_chases) := by
  refine ct_vm (own := RX11) (by decide +kernel) rfl ?_ ?_
  · intro as μ Q hS
    unfold S_X11_chases at hS
    split at hS
    · exact Nat.le_of_ble_eq_true rfl
    · exact hS.elim
  · intro as μ R hS
    unfold S_X11_chases at hS
    split at hS
    · exact body_X11_chases hS.1 hS.2
    · exact hS.elim
def P_X11_chasesOf (o n k : Int) (μ : Mem) : Prop := o = 201 ∧ SOk (stM μ) ∧ r32 n ∧ r32 k
def Q_X11_chasesOf (_ n k : Int) (μ μ' : Mem) (r : Int) : Prop := AskM μ μ' ∧ (¬ ((0 ≤ n ∧ n < μ 202 0) ∧ 1 ≤ k ∧ k ≤ 5) → r = 0) ∧ ((0 ≤ n ∧ n < μ 202 0) ∧ 1 ≤ k ∧ k ≤ 5 → r = 1 ∧ vm μ' = (stM μ).1.2.2 n ∧ μ' 201 42 = (chaV (vm μ') k).1 ∧ ∀ j : Int, 0 ≤ j → j < k → μ' 226 j = dg (vm μ' 0 0) k.toNat (chaV (vm μ') k).2 j)
def S_X11_chasesOf : S0t := fun as μ Q => match as with
  | [(2, x0), (0, x1), (0, x2)] => P_X11_chasesOf x0 x1 x2 μ ∧ ∀ (μ' : Mem) (r : Int), Q_X11_chasesOf x0 x1 x2 μ μ' r → Q μ' (some (kI r))
  | _ => False
theorem mono_X11_chasesOf : Mono S_X11_chasesOf := by
  intro as μ Q Q' h hS
  unfold S_X11_chasesOf at hS ⊢
  split at hS
  · exact ⟨hS.1, fun μ' r q => h _ _ (hS.2 _ _ q)⟩
  · exact hS.elim
def iX11_chasesOf : Inf := (kX11_chasesOf, fTX11, pTX11, cTX11, lTX11, sTX11, [(219, 0, 1, 11, S_X11_isTown), (162, 1, 3, 0, S_X11_isIn), (384, 0, 1, 11, S_X11_chases)])
theorem ok_X11_chasesOf : infOK iX11_chasesOf mX11_chasesOf RX11 3 75 := ⟨kkX11_chasesOf, fTX11_ok, pTX11_ok _, cTX11_ok, lTX11_ok, sTX11_ok, c_cons ⟨mX11_isTown, 1, 22, ct_X11_isTown, mmX11_isTown, vvX11_isTown, lkX11_219, ⟨by decide, by decide⟩, ⟨_, _, rfl⟩, by decide, mono_X11_isTown⟩ (c_cons ⟨mX11_isIn, 0, 0, ct_X11_isIn, mmX11_isIn, stX11_isIn, lkX11_162, ⟨by decide, by decide⟩, mono_X11_isIn⟩ (c_cons ⟨mX11_chases, 2, 52, ct_X11_chases, mmX11_chases, vvX11_chases, lkX11_384, ⟨by decide, by decide⟩, ⟨_, _, rfl⟩, by decide, mono_X11_chases⟩ (c_nil)))⟩
theorem mt_X11_chasesOf : mtOK [] RX11 3 75 := mt_nil
abbrev V_X11_chasesOf (R : Mem → Option AV → Prop) (pc : Nat) (lc : List (Nat × AV)) (μ : Mem) : Prop := VM mX11_chasesOf RX11 3 75 R pc lc [] μ
set_option maxRecDepth 20000 in
theorem vc_X11_chasesOf_0 {R : Mem → Option AV → Prop} {n k : Int} {μ : Mem} (H : P_X11_isTown 201 n μ ∧ (∀ (μ1 : Mem) (rv2 : Int), Q_X11_isTown 201 n μ μ1 rv2 → r32 rv2 ∧ ((rv2 = 0) → R μ1 (some (kI 0))) ∧ (¬ (rv2 = 0) → P_X11_isIn k 1 5 μ1 ∧ r32 (F_X11_isIn k 1 5 μ1) ∧ ((¬ (F_X11_isIn k 1 5 μ1) = 0) → P_X11_chases 201 k μ1 ∧ (∀ (μ4 : Mem), Q_X11_chases 201 k μ1 μ4 → R μ4 (some (kI 1)))) ∧ (¬ (¬ (F_X11_isIn k 1 5 μ1) = 0) → R μ1 (some (kI 0)))))) : V_X11_chasesOf R 0 [(0, kR 201), (1, kI n), (2, kI k)] μ := by
  refine vm_step2 mt_X11_chasesOf ok_X11_chasesOf [] 1000 ?_
  show isC 201 11 ∧ P_X11_isTown 201 n μ ∧ (∀ (μ1 : Mem) (rv2 : Int), Q_X11_isTown 201 n μ μ1 rv2 → r32 rv2 ∧ ((rv2 = 0) → (0 ≤ (0 : Int) ∧ (0 : Int) ≤ 1) ∧ R μ1 (some (kI 0))) ∧ (¬ (rv2 = 0) → P_X11_isIn k 1 5 μ1 ∧ r32 (F_X11_isIn k 1 5 μ1) ∧ ((¬ (F_X11_isIn k 1 5 μ1) = 0) → isC 201 11 ∧ P_X11_chases 201 k μ1 ∧ (∀ (μ4 : Mem), Q_X11_chases 201 k μ1 μ4 → (0 ≤ (1 : Int) ∧ (1 : Int) ≤ 1) ∧ R μ4 (some (kI 1)))) ∧ (¬ (¬ (F_X11_isIn k 1 5 μ1) = 0) → (0 ≤ (0 : Int) ∧ (0 : Int) ≤ 1) ∧ R μ1 (some (kI 0)))))
  exact ⟨c_201, H.1, fun μ1 rv2 hq3 => ⟨(H.2 μ1 rv2 hq3).1, fun hc8 => ⟨⟨by omega, by omega⟩, ((H.2 μ1 rv2 hq3).2.1 hc8)⟩, fun hc8 => ⟨((H.2 μ1 rv2 hq3).2.2 hc8).1, ⟨((H.2 μ1 rv2 hq3).2.2 hc8).2.1, fun hc7 => ⟨c_201, (((H.2 μ1 rv2 hq3).2.2 hc8).2.2.1 hc7).1, fun μ4 hq6 => ⟨⟨by omega, by omega⟩, ((((H.2 μ1 rv2 hq3).2.2 hc8).2.2.1 hc7).2 μ4 hq6)⟩⟩, fun hc7 => ⟨⟨by omega, by omega⟩, (((H.2 μ1 rv2 hq3).2.2 hc8).2.2.2 hc7)⟩⟩⟩⟩⟩
theorem body_X11_chasesOf {o n k : Int} {μ : Mem} {R : Mem → Option AV → Prop} (h : P_X11_chasesOf o n k μ) (hR : ∀ (μ' : Mem) (r : Int), Q_X11_chasesOf o n k μ μ' r → R μ' (some (kI r))) : V_X11_chasesOf R 0 [(0, kR o), (1, kI n), (2, kI k)] μ := by
  obtain ⟨rfl, hs, r_n, r_k⟩ := h
  refine vc_X11_chasesOf_0 ⟨⟨rfl, hs, r_n⟩, fun m rv q => ?_⟩
  obtain ⟨q1, q2, q3, q4⟩ := q
  have ask : AskM μ m := fun z hz => q1 z (by omega)
  have ik := isIn_r (x := k) (lo := 1) (hi := 5) (μ := m)
  by_cases c : 0 ≤ n ∧ n < μ 202 0
  · obtain ⟨rfl, hb, hv, h12⟩ := q4 c
    refine ⟨rr (by omega), fun q => absurd q (by omega), fun _ => ⟨⟨r_k, rr (by omega), rr (by omega)⟩, rr (by omega), fun d => ?_, fun d => hR m 0 ⟨ask, fun _ => rfl, fun q => absurd (isIn_1.mpr q.2) d⟩⟩⟩
    have dk := isIn_1.mp d
    refine ⟨⟨rfl, hb, dk⟩, fun m4 g => ?_⟩
    obtain ⟨g1, g2, g3, g4⟩ := g
    have e : vm m4 = vm m := (MB_frame hb (g4 202 (by omega) (by omega)) (g3 12 (by decide)) (g3 13 (by decide))).2
    refine hR m4 1 ⟨ask.trans (fun z hz => ?_), fun q => absurd ⟨c, dk⟩ q, fun _ => ⟨rfl, by rw [e, hv], by rw [e]; exact g1, by rw [e]; exact g2⟩⟩
    exact g4 z (by omega) (by omega)
  · have e := q3 c
    subst e
    exact ⟨rr (by omega), fun _ => hR m 0 ⟨ask, fun _ => rfl, fun q => absurd q.1 c⟩, fun q => absurd rfl q⟩
theorem ct_X11_chasesOf : Ct mX11_chasesOf 3 75 0 0 (nrmS S_X11_chasesOf) := by
  refine ct_vm (own := RX11) (by decide +kernel) rfl ?_ ?_
  · intro as μ Q hS
    unfold S_X11_chasesOf at hS
    split at hS
    · exact Nat.le_of_ble_eq_true rfl
    · exact hS.elim
  · intro as μ R hS
    unfold S_X11_chasesOf at hS
    split at hS
    · exact body_X11_chasesOf hS.1 hS.2
    · exact hS.elim
def P_X11_chase (o n a k : Int) (μ : Mem) : Prop := o = 201 ∧ SOk (stM μ) ∧ r32 n ∧ r32 a ∧ r32 k
def Q_X11_chase (_ n a k : Int) (μ μ' : Mem) (r : Int) : Prop := AskM μ μ' ∧ r = onT (stM μ).1 n (-1) (chaseT a k)
def S_X11_chase : S0t := fun as μ Q => match as with
  | [(2, x0), (0, x1), (0, x2), (0, x3)] => P_X11_chase x0 x1 x2 x3 μ ∧ ∀ (μ' : Mem) (r : Int), Q_X11_chase x0 x1 x2 x3 μ μ' r → Q μ' (some (kI r))
  | _ => False
theorem mono_X11_chase : Mono S_X11_chase := by
  intro as μ Q Q' h hS
  unfold S_X11_chase at hS ⊢
  split at hS
  · exact ⟨hS.1, fun μ' r q => h _ _ (hS.2 _ _ q)⟩
  · exact hS.elim
def iX11_chase : Inf := (kX11_chase, fTX11, pTX11, cTX11, lTX11, sTX11, [(387, 0, 2, 11, S_X11_chasesOf), (162, 1, 3, 0, S_X11_isIn)])
theorem ok_X11_chase : infOK iX11_chase mX11_chase RX11 4 97 := ⟨kkX11_chase, fTX11_ok, pTX11_ok _, cTX11_ok, lTX11_ok, sTX11_ok, c_cons ⟨mX11_chasesOf, 3, 75, ct_X11_chasesOf, mmX11_chasesOf, vvX11_chasesOf, lkX11_387, ⟨by decide, by decide⟩, ⟨_, _, rfl⟩, by decide, mono_X11_chasesOf⟩ (c_cons ⟨mX11_isIn, 0, 0, ct_X11_isIn, mmX11_isIn, stX11_isIn, lkX11_162, ⟨by decide, by decide⟩, mono_X11_isIn⟩ (c_nil))⟩
theorem mt_X11_chase : mtOK [] RX11 4 97 := mt_nil
abbrev V_X11_chase (R : Mem → Option AV → Prop) (pc : Nat) (lc : List (Nat × AV)) (μ : Mem) : Prop := VM mX11_chase RX11 4 97 R pc lc [] μ
set_option maxRecDepth 20000 in
theorem vc_X11_chase_0 {R : Mem → Option AV → Prop} {n a k : Int} {μ : Mem} (H : P_X11_chasesOf 201 n a μ ∧ (∀ (μ1 : Mem) (rv2 : Int), Q_X11_chasesOf 201 n a μ μ1 rv2 → r32 rv2 ∧ ((rv2 = 0) → R μ1 (some (kI (-1)))) ∧ (¬ (rv2 = 0) → P_X11_isIn k 0 (a - 1) μ1 ∧ r32 (F_X11_isIn k 0 (a - 1) μ1) ∧ (((F_X11_isIn k 0 (a - 1) μ1) = 0) → R μ1 (some (kI (-1)))) ∧ (¬ ((F_X11_isIn k 0 (a - 1) μ1) = 0) → (0 ≤ k ∧ k < 5) ∧ R μ1 (some (kI (μ1 226 k))))))) : V_X11_chase R 0 [(0, kR 201), (1, kI n), (2, kI a), (3, kI k)] μ := by
  refine vm_step2 mt_X11_chase ok_X11_chase [] 1000 ?_
  show isC 201 11 ∧ P_X11_chasesOf 201 n a μ ∧ (∀ (μ1 : Mem) (rv2 : Int), Q_X11_chasesOf 201 n a μ μ1 rv2 → r32 rv2 ∧ ((rv2 = 0) → R μ1 (some (kI (-1)))) ∧ (¬ (rv2 = 0) → P_X11_isIn k 0 (a - 1) μ1 ∧ r32 (F_X11_isIn k 0 (a - 1) μ1) ∧ (((F_X11_isIn k 0 (a - 1) μ1) = 0) → R μ1 (some (kI (-1)))) ∧ (¬ ((F_X11_isIn k 0 (a - 1) μ1) = 0) → isC 201 11 ∧ inA 226 0 k ∧ R μ1 (some (kI (μ1 226 k))))))
  exact ⟨c_201, H.1, fun μ1 rv2 hq3 => ⟨(H.2 μ1 rv2 hq3).1, fun hc5 => ((H.2 μ1 rv2 hq3).2.1 hc5), fun hc5 => ⟨((H.2 μ1 rv2 hq3).2.2 hc5).1, ⟨((H.2 μ1 rv2 hq3).2.2 hc5).2.1, fun hc4 => (((H.2 μ1 rv2 hq3).2.2 hc5).2.2.1 hc4), fun hc4 => ⟨c_201, ⟨isArr.in a_226 (((H.2 μ1 rv2 hq3).2.2 hc5).2.2.2 hc4).1.1 (((H.2 μ1 rv2 hq3).2.2 hc5).2.2.2 hc4).1.2, (((H.2 μ1 rv2 hq3).2.2 hc5).2.2.2 hc4).2⟩⟩⟩⟩⟩⟩
theorem body_X11_chase {o n a k : Int} {μ : Mem} {R : Mem → Option AV → Prop} (h : P_X11_chase o n a k μ) (hR : ∀ (μ' : Mem) (r : Int), Q_X11_chase o n a k μ μ' r → R μ' (some (kI r))) : V_X11_chase R 0 [(0, kR o), (1, kI n), (2, kI a), (3, kI k)] μ := by
  obtain ⟨rfl, hs, r_n, r_a, r_k⟩ := h
  refine vc_X11_chase_0 ⟨⟨rfl, hs, r_n, r_a⟩, fun m rv q => ?_⟩
  obtain ⟨q1, q3, q4⟩ := q
  by_cases c : (0 ≤ n ∧ n < μ 202 0) ∧ 1 ≤ a ∧ a ≤ 5
  · obtain ⟨rfl, hv, hc, hd⟩ := q4 c
    have fin : ∀ x : Int, x = (chaseT a k) (vm m) → R m (some (kI x)) := fun x hx => hR m x ⟨q1, by rw [hx, onM_yes c.1, ← hv]⟩
    refine ⟨rr (by omega), fun q => absurd q (by omega), fun _ => ?_⟩
    have ik := isIn_r (x := k) (lo := 0) (hi := a - 1) (μ := m)
    unfold chaseT at fin
    refine ⟨⟨r_k, rr (by omega), rr (by omega)⟩, rr (by omega), fun d => fin _ ?_, fun d => ?_⟩
    · rw [if_neg (fun q => isIn_1.mpr (by omega) d)]
    · have dk := isIn_1.mp d
      refine ⟨by omega, fin _ ?_⟩
      rw [if_pos (by omega)]
      exact hd k dk.1 (by omega)
  · have e := q3 c
    subst e
    refine ⟨rr (by omega), fun _ => hR m _ ⟨q1, ?_⟩, fun q => absurd rfl q⟩
    by_cases c1 : 0 ≤ n ∧ n < μ 202 0
    · rw [onM_yes c1]
      unfold chaseT
      rw [if_neg (fun q => c ⟨c1, q.1⟩)]
    · exact (onM_no c1).symm
theorem ct_X11_chase : Ct mX11_chase 4 97 0 0 (nrmS S_X11_chase) := by
  refine ct_vm (own := RX11) (by decide +kernel) rfl ?_ ?_
  · intro as μ Q hS
    unfold S_X11_chase at hS
    split at hS
    · exact Nat.le_of_ble_eq_true rfl
    · exact hS.elim
  · intro as μ R hS
    unfold S_X11_chase at hS
    split at hS
    · exact body_X11_chase hS.1 hS.2
    · exact hS.elim
def P_X11_caught (o n a : Int) (μ : Mem) : Prop := o = 201 ∧ SOk (stM μ) ∧ r32 n ∧ r32 a
def Q_X11_caught (_ n a : Int) (μ μ' : Mem) (r : Int) : Prop := AskM μ μ' ∧ r = onT (stM μ).1 n (-1) (caughtT a)
def S_X11_caught : S0t := fun as μ Q => match as with
  | [(2, x0), (0, x1), (0, x2)] => P_X11_caught x0 x1 x2 μ ∧ ∀ (μ' : Mem) (r : Int), Q_X11_caught x0 x1 x2 μ μ' r → Q μ' (some (kL r))
  | _ => False
theorem mono_X11_caught : Mono S_X11_caught := by
  intro as μ Q Q' h hS
  unfold S_X11_caught at hS ⊢
  split at hS
  · exact ⟨hS.1, fun μ' r q => h _ _ (hS.2 _ _ q)⟩
  · exact hS.elim
def iX11_caught : Inf := (kX11_caught, fTX11, pTX11, cTX11, lTX11, sTX11, [(387, 0, 2, 11, S_X11_chasesOf)])
theorem ok_X11_caught : infOK iX11_caught mX11_caught RX11 4 97 := ⟨kkX11_caught, fTX11_ok, pTX11_ok _, cTX11_ok, lTX11_ok, sTX11_ok, c_cons ⟨mX11_chasesOf, 3, 75, ct_X11_chasesOf, mmX11_chasesOf, vvX11_chasesOf, lkX11_387, ⟨by decide, by decide⟩, ⟨_, _, rfl⟩, by decide, mono_X11_chasesOf⟩ (c_nil)⟩
theorem mt_X11_caught : mtOK [] RX11 4 97 := mt_nil
abbrev V_X11_caught (R : Mem → Option AV → Prop) (pc : Nat) (lc : List (Nat × AV)) (μ : Mem) : Prop := VM mX11_caught RX11 4 97 R pc lc [] μ
set_option maxRecDepth 20000 in
theorem vc_X11_caught_0 {R : Mem → Option AV → Prop} {n a : Int} {μ : Mem} (H : P_X11_chasesOf 201 n a μ ∧ (∀ (μ1 : Mem) (rv2 : Int), Q_X11_chasesOf 201 n a μ μ1 rv2 → r32 rv2 ∧ ((rv2 = 0) → R μ1 (some (kL (-1)))) ∧ (¬ (rv2 = 0) → R μ1 (some (kL (μ1 201 42)))))) : V_X11_caught R 0 [(0, kR 201), (1, kI n), (2, kI a)] μ := by
  refine vm_step2 mt_X11_caught ok_X11_caught [] 1000 ?_
  show isC 201 11 ∧ P_X11_chasesOf 201 n a μ ∧ (∀ (μ1 : Mem) (rv2 : Int), Q_X11_chasesOf 201 n a μ μ1 rv2 → r32 rv2 ∧ ((rv2 = 0) → R μ1 (some (kL (-1)))) ∧ (¬ (rv2 = 0) → isC 201 11 ∧ R μ1 (some (kL (μ1 201 42)))))
  exact ⟨c_201, H.1, fun μ1 rv2 hq3 => ⟨(H.2 μ1 rv2 hq3).1, fun hc4 => ((H.2 μ1 rv2 hq3).2.1 hc4), fun hc4 => ⟨c_201, ((H.2 μ1 rv2 hq3).2.2 hc4)⟩⟩⟩
theorem body_X11_caught {o n a : Int} {μ : Mem} {R : Mem → Option AV → Prop} (h : P_X11_caught o n a μ) (hR : ∀ (μ' : Mem) (r : Int), Q_X11_caught o n a μ μ' r → R μ' (some (kL r))) : V_X11_caught R 0 [(0, kR o), (1, kI n), (2, kI a)] μ := by
  obtain ⟨rfl, hs, r_n, r_a⟩ := h
  refine vc_X11_caught_0 ⟨⟨rfl, hs, r_n, r_a⟩, fun m rv q => ?_⟩
  obtain ⟨q1, q3, q4⟩ := q
  by_cases c : (0 ≤ n ∧ n < μ 202 0) ∧ 1 ≤ a ∧ a ≤ 5
  · obtain ⟨rfl, hv, hc, hd⟩ := q4 c
    have fin : ∀ x : Int, x = (caughtT a) (vm m) → R m (some (kL x)) := fun x hx => hR m x ⟨q1, by rw [hx, onM_yes c.1, ← hv]⟩
    refine ⟨rr (by omega), fun q => absurd q (by omega), fun _ => ?_⟩
    unfold caughtT at fin
    exact fin _ (by rw [if_pos c.2]; exact hc)
  · have e := q3 c
    subst e
    refine ⟨rr (by omega), fun _ => hR m _ ⟨q1, ?_⟩, fun q => absurd rfl q⟩
    by_cases c1 : 0 ≤ n ∧ n < μ 202 0
    · rw [onM_yes c1]
      unfold caughtT
      rw [if_neg (fun q => c ⟨c1, q⟩)]
    · exact (onM_no c1).symm
theorem ct_X11_caught : Ct mX11_caught 4 97 0 0 (nrmS S_X11_caught) := by
  refine ct_vm (own := RX11) (by decide +kernel) rfl ?_ ?_
  · intro as μ Q hS
    unfold S_X11_caught at hS
    split at hS
    · exact Nat.le_of_ble_eq_true rfl
    · exact hS.elim
  · intro as μ R hS
    unfold S_X11_caught at hS
    split at hS
    · exact body_X11_caught hS.1 hS.2
    · exact hS.elim
