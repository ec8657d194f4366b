def P_X11_isLess (a b c d : Int) (_ : Mem) : Prop := (0 ≤ a ∧ a ≤ 9223372036854775807) ∧ (1 ≤ b ∧ b ≤ 9223372036854775807) ∧ (0 ≤ c ∧ c ≤ 9223372036854775807) ∧ (1 ≤ d ∧ d ≤ 9223372036854775807)
def F_X11_isLess (a b c d : Int) (_ : Mem) : Int := lessI a b c d
def S_X11_isLess : S0t := fun as μ Q => match as with
  | [(1, x0), (1, x1), (1, x2), (1, x3)] => P_X11_isLess x0 x1 x2 x3 μ ∧ Q μ (some (kI (F_X11_isLess x0 x1 x2 x3 μ)))
  | _ => False
theorem mono_X11_isLess : Mono S_X11_isLess := by
  intro as μ Q Q' h hS
  unfold S_X11_isLess at hS ⊢
  split at hS
  · exact ⟨hS.1, h _ _ hS.2⟩
  · exact hS.elim
def iX11_isLess : Inf := (kX11_isLess, fTX11, pTX11, cTX11, lTX11, sTX11, [])
theorem ok_X11_isLess : infOK iX11_isLess mX11_isLess RX11 0 0 := ⟨kkX11_isLess, fTX11_ok, pTX11_ok _, cTX11_ok, lTX11_ok, sTX11_ok, c_nil⟩
theorem mt_X11_isLess : mtOK [] RX11 0 0 := mt_nil
abbrev V_X11_isLess (R : Mem → Option AV → Prop) (pc : Nat) (lc : List (Nat × AV)) (μ : Mem) : Prop := VM mX11_isLess RX11 0 0 R pc lc [] μ
set_option maxRecDepth 20000 in
theorem vc_X11_isLess_0 {R : Mem → Option AV → Prop} {a b c d : Int} {μ : Mem} (H : V_X11_isLess R 17 [(8, kL a), (10, kL b), (12, kL c), (14, kL d), (16, kI 0)] μ) : V_X11_isLess R 0 [(0, kL a), (2, kL b), (4, kL c), (6, kL d)] μ := by
  refine vm_step2 mt_X11_isLess ok_X11_isLess [(17, [8, 10, 12, 14, 16]), (96, [8, 10, 12, 14, 16]), (117, [8, 10, 12, 14, 16, 17]), (171, [8, 10, 12, 14, 16, 17, 18]), (225, [16, 18, 19])] 1000 ?_
  show V_X11_isLess R 17 [(8, kL a), (10, kL b), (12, kL c), (14, kL d), (16, kI 0)] μ
  exact H
set_option maxRecDepth 20000 in
theorem vc_X11_isLess_17 {R : Mem → Option AV → Prop} {x y z w tu : Int} {μ : Mem} (H : (r64 x ∧ r64 y ∧ y ≠ 0) ∧ (r64 z ∧ r64 w ∧ w ≠ 0) ∧ r64 (Int.tdiv x y) ∧ r64 (Int.tdiv z w) ∧ ((¬ (Int.tdiv x y) = (Int.tdiv z w)) → V_X11_isLess R 96 [(8, kL x), (10, kL y), (12, kL z), (14, kL w), (16, kI tu)] μ) ∧ (¬ (¬ (Int.tdiv x y) = (Int.tdiv z w)) → (r64 x ∧ r64 y ∧ y ≠ 0) ∧ r64 (Int.tmod x y) ∧ (((Int.tmod x y) = (0 : Int)) → V_X11_isLess R 96 [(8, kL x), (10, kL y), (12, kL z), (14, kL w), (16, kI tu)] μ) ∧ (¬ ((Int.tmod x y) = (0 : Int)) → (r64 z ∧ r64 w ∧ w ≠ 0) ∧ r64 (Int.tmod z w) ∧ (((Int.tmod z w) = (0 : Int)) → V_X11_isLess R 96 [(8, kL x), (10, kL y), (12, kL z), (14, kL w), (16, kI tu)] μ) ∧ (¬ ((Int.tmod z w) = (0 : Int)) → (r64 x ∧ r64 y ∧ y ≠ 0) ∧ (r64 z ∧ r64 w ∧ w ≠ 0) ∧ r32 tu ∧ ((¬ tu = 0) → V_X11_isLess R 17 [(8, kL y), (10, kL (Int.tmod x y)), (12, kL w), (14, kL (Int.tmod z w)), (16, kI 0)] μ) ∧ (¬ (¬ tu = 0) → V_X11_isLess R 17 [(8, kL y), (10, kL (Int.tmod x y)), (12, kL w), (14, kL (Int.tmod z w)), (16, kI 1)] μ))))) : V_X11_isLess R 17 [(8, kL x), (10, kL y), (12, kL z), (14, kL w), (16, kI tu)] μ := by
  refine vm_step2 mt_X11_isLess ok_X11_isLess [(17, [8, 10, 12, 14, 16]), (96, [8, 10, 12, 14, 16]), (117, [8, 10, 12, 14, 16, 17]), (171, [8, 10, 12, 14, 16, 17, 18]), (225, [16, 18, 19])] 1000 ?_
  show (r64 x ∧ r64 y ∧ y ≠ 0) ∧ (r64 z ∧ r64 w ∧ w ≠ 0) ∧ (r64 (Int.tdiv x y) ∧ r64 (Int.tdiv z w)) ∧ r32 (lcm3 (Int.tdiv x y) (Int.tdiv z w)) ∧ ((¬ lcm3 (Int.tdiv x y) (Int.tdiv z w) = 0) → V_X11_isLess R 96 [(8, kL x), (10, kL y), (12, kL z), (14, kL w), (16, kI tu)] μ) ∧ (¬ (¬ lcm3 (Int.tdiv x y) (Int.tdiv z w) = 0) → (r64 x ∧ r64 y ∧ y ≠ 0) ∧ (r64 (Int.tmod x y) ∧ r64 (0 : Int)) ∧ r32 (lcm3 (Int.tmod x y) (0 : Int)) ∧ ((lcm3 (Int.tmod x y) (0 : Int) = 0) → V_X11_isLess R 96 [(8, kL x), (10, kL y), (12, kL z), (14, kL w), (16, kI tu)] μ) ∧ (¬ (lcm3 (Int.tmod x y) (0 : Int) = 0) → (r64 z ∧ r64 w ∧ w ≠ 0) ∧ (r64 (Int.tmod z w) ∧ r64 (0 : Int)) ∧ r32 (lcm3 (Int.tmod z w) (0 : Int)) ∧ ((lcm3 (Int.tmod z w) (0 : Int) = 0) → V_X11_isLess R 96 [(8, kL x), (10, kL y), (12, kL z), (14, kL w), (16, kI tu)] μ) ∧ (¬ (lcm3 (Int.tmod z w) (0 : Int) = 0) → (r64 x ∧ r64 y ∧ y ≠ 0) ∧ (r64 z ∧ r64 w ∧ w ≠ 0) ∧ r32 tu ∧ ((¬ tu = 0) → V_X11_isLess R 17 [(8, kL y), (10, kL (Int.tmod x y)), (12, kL w), (14, kL (Int.tmod z w)), (16, kI 0)] μ) ∧ (¬ (¬ tu = 0) → V_X11_isLess R 17 [(8, kL y), (10, kL (Int.tmod x y)), (12, kL w), (14, kL (Int.tmod z w)), (16, kI 1)] μ))))
  exact ⟨H.1, ⟨H.2.1, ⟨⟨H.2.2.1, H.2.2.2.1⟩, lcm3_r _ _, fun hc4 => (H.2.2.2.2.1 (lcm_ne.mp hc4)), fun hc4 => ⟨(H.2.2.2.2.2 (fun q => hc4 (lcm_ne.mpr q))).1, ⟨⟨(H.2.2.2.2.2 (fun q => hc4 (lcm_ne.mpr q))).2.1, by unfold r64; omega⟩, lcm3_r _ _, fun hc3 => ((H.2.2.2.2.2 (fun q => hc4 (lcm_ne.mpr q))).2.2.1 (lcm_eq.mp hc3)), fun hc3 => ⟨((H.2.2.2.2.2 (fun q => hc4 (lcm_ne.mpr q))).2.2.2 (fun q => hc3 (lcm_eq.mpr q))).1, ⟨⟨((H.2.2.2.2.2 (fun q => hc4 (lcm_ne.mpr q))).2.2.2 (fun q => hc3 (lcm_eq.mpr q))).2.1, by unfold r64; omega⟩, lcm3_r _ _, fun hc2 => (((H.2.2.2.2.2 (fun q => hc4 (lcm_ne.mpr q))).2.2.2 (fun q => hc3 (lcm_eq.mpr q))).2.2.1 (lcm_eq.mp hc2)), fun hc2 => ⟨(((H.2.2.2.2.2 (fun q => hc4 (lcm_ne.mpr q))).2.2.2 (fun q => hc3 (lcm_eq.mpr q))).2.2.2 (fun q => hc2 (lcm_eq.mpr q))).1, ⟨(((H.2.2.2.2.2 (fun q => hc4 (lcm_ne.mpr q))).2.2.2 (fun q => hc3 (lcm_eq.mpr q))).2.2.2 (fun q => hc2 (lcm_eq.mpr q))).2.1, ⟨(((H.2.2.2.2.2 (fun q => hc4 (lcm_ne.mpr q))).2.2.2 (fun q => hc3 (lcm_eq.mpr q))).2.2.2 (fun q => hc2 (lcm_eq.mpr q))).2.2.1, fun hc1 => ((((H.2.2.2.2.2 (fun q => hc4 (lcm_ne.mpr q))).2.2.2 (fun q => hc3 (lcm_eq.mpr q))).2.2.2 (fun q => hc2 (lcm_eq.mpr q))).2.2.2.1 hc1), fun hc1 => ((((H.2.2.2.2.2 (fun q => hc4 (lcm_ne.mpr q))).2.2.2 (fun q => hc3 (lcm_eq.mpr q))).2.2.2 (fun q => hc2 (lcm_eq.mpr q))).2.2.2.2 hc1)⟩⟩⟩⟩⟩⟩⟩⟩⟩⟩
set_option maxRecDepth 20000 in
theorem vc_X11_isLess_96 {R : Mem → Option AV → Prop} {x y z w tu : Int} {μ : Mem} (H : (r64 x ∧ r64 y ∧ y ≠ 0) ∧ (r64 z ∧ r64 w ∧ w ≠ 0) ∧ r64 (Int.tdiv x y) ∧ r64 (Int.tdiv z w) ∧ ((¬ (Int.tdiv x y) = (Int.tdiv z w)) → V_X11_isLess R 117 [(8, kL x), (10, kL y), (12, kL z), (14, kL w), (16, kI tu), (17, kI 0)] μ) ∧ (¬ (¬ (Int.tdiv x y) = (Int.tdiv z w)) → V_X11_isLess R 117 [(8, kL x), (10, kL y), (12, kL z), (14, kL w), (16, kI tu), (17, kI 1)] μ)) : V_X11_isLess R 96 [(8, kL x), (10, kL y), (12, kL z), (14, kL w), (16, kI tu)] μ := by
  refine vm_step2 mt_X11_isLess ok_X11_isLess [(17, [8, 10, 12, 14, 16]), (96, [8, 10, 12, 14, 16]), (117, [8, 10, 12, 14, 16, 17]), (171, [8, 10, 12, 14, 16, 17, 18]), (225, [16, 18, 19])] 1000 ?_
  show (r64 x ∧ r64 y ∧ y ≠ 0) ∧ (r64 z ∧ r64 w ∧ w ≠ 0) ∧ (r64 (Int.tdiv x y) ∧ r64 (Int.tdiv z w)) ∧ r32 (lcm3 (Int.tdiv x y) (Int.tdiv z w)) ∧ ((¬ lcm3 (Int.tdiv x y) (Int.tdiv z w) = 0) → V_X11_isLess R 117 [(8, kL x), (10, kL y), (12, kL z), (14, kL w), (16, kI tu), (17, kI 0)] μ) ∧ (¬ (¬ lcm3 (Int.tdiv x y) (Int.tdiv z w) = 0) → V_X11_isLess R 117 [(8, kL x), (10, kL y), (12, kL z), (14, kL w), (16, kI tu), (17, kI 1)] μ)
  exact ⟨H.1, ⟨H.2.1, ⟨⟨H.2.2.1, H.2.2.2.1⟩, lcm3_r _ _, fun hc5 => (H.2.2.2.2.1 (lcm_ne.mp hc5)), fun hc5 => (H.2.2.2.2.2 (fun q => hc5 (lcm_ne.mpr q)))⟩⟩⟩
set_option maxRecDepth 20000 in
theorem vc_X11_isLess_117 {R : Mem → Option AV → Prop} {x y z w tu sa : Int} {μ : Mem} (H : r32 sa ∧ ((sa = 0) → (r64 x ∧ r64 y ∧ y ≠ 0) ∧ (r64 z ∧ r64 w ∧ w ≠ 0) ∧ r64 (Int.tdiv x y) ∧ r64 (Int.tdiv z w) ∧ (((Int.tdiv z w) ≤ (Int.tdiv x y)) → V_X11_isLess R 171 [(8, kL x), (10, kL y), (12, kL z), (14, kL w), (16, kI tu), (17, kI sa), (18, kI 0)] μ) ∧ (¬ ((Int.tdiv z w) ≤ (Int.tdiv x y)) → V_X11_isLess R 171 [(8, kL x), (10, kL y), (12, kL z), (14, kL w), (16, kI tu), (17, kI sa), (18, kI 1)] μ)) ∧ (¬ (sa = 0) → (r64 x ∧ r64 y ∧ y ≠ 0) ∧ r64 (Int.tmod x y) ∧ ((¬ (Int.tmod x y) = (0 : Int)) → V_X11_isLess R 171 [(8, kL x), (10, kL y), (12, kL z), (14, kL w), (16, kI tu), (17, kI sa), (18, kI 0)] μ) ∧ (¬ (¬ (Int.tmod x y) = (0 : Int)) → (r64 z ∧ r64 w ∧ w ≠ 0) ∧ r64 (Int.tmod z w) ∧ (((Int.tmod z w) = (0 : Int)) → V_X11_isLess R 171 [(8, kL x), (10, kL y), (12, kL z), (14, kL w), (16, kI tu), (17, kI sa), (18, kI 0)] μ) ∧ (¬ ((Int.tmod z w) = (0 : Int)) → V_X11_isLess R 171 [(8, kL x), (10, kL y), (12, kL z), (14, kL w), (16, kI tu), (17, kI sa), (18, kI 1)] μ)))) : V_X11_isLess R 117 [(8, kL x), (10, kL y), (12, kL z), (14, kL w), (16, kI tu), (17, kI sa)] μ := by
  refine vm_step2 mt_X11_isLess ok_X11_isLess [(17, [8, 10, 12, 14, 16]), (96, [8, 10, 12, 14, 16]), (117, [8, 10, 12, 14, 16, 17]), (171, [8, 10, 12, 14, 16, 17, 18]), (225, [16, 18, 19])] 1000 ?_
  show r32 sa ∧ ((sa = 0) → (r64 x ∧ r64 y ∧ y ≠ 0) ∧ (r64 z ∧ r64 w ∧ w ≠ 0) ∧ (r64 (Int.tdiv x y) ∧ r64 (Int.tdiv z w)) ∧ r32 (lcm3 (Int.tdiv x y) (Int.tdiv z w)) ∧ ((0 ≤ lcm3 (Int.tdiv x y) (Int.tdiv z w)) → V_X11_isLess R 171 [(8, kL x), (10, kL y), (12, kL z), (14, kL w), (16, kI tu), (17, kI sa), (18, kI 0)] μ) ∧ (¬ (0 ≤ lcm3 (Int.tdiv x y) (Int.tdiv z w)) → V_X11_isLess R 171 [(8, kL x), (10, kL y), (12, kL z), (14, kL w), (16, kI tu), (17, kI sa), (18, kI 1)] μ)) ∧ (¬ (sa = 0) → (r64 x ∧ r64 y ∧ y ≠ 0) ∧ (r64 (Int.tmod x y) ∧ r64 (0 : Int)) ∧ r32 (lcm3 (Int.tmod x y) (0 : Int)) ∧ ((¬ lcm3 (Int.tmod x y) (0 : Int) = 0) → V_X11_isLess R 171 [(8, kL x), (10, kL y), (12, kL z), (14, kL w), (16, kI tu), (17, kI sa), (18, kI 0)] μ) ∧ (¬ (¬ lcm3 (Int.tmod x y) (0 : Int) = 0) → (r64 z ∧ r64 w ∧ w ≠ 0) ∧ (r64 (Int.tmod z w) ∧ r64 (0 : Int)) ∧ r32 (lcm3 (Int.tmod z w) (0 : Int)) ∧ ((lcm3 (Int.tmod z w) (0 : Int) = 0) → V_X11_isLess R 171 [(8, kL x), (10, kL y), (12, kL z), (14, kL w), (16, kI tu), (17, kI sa), (18, kI 0)] μ) ∧ (¬ (lcm3 (Int.tmod z w) (0 : Int) = 0) → V_X11_isLess R 171 [(8, kL x), (10, kL y), (12, kL z), (14, kL w), (16, kI tu), (17, kI sa), (18, kI 1)] μ)))
  exact ⟨H.1, fun hc9 => ⟨(H.2.1 hc9).1, ⟨(H.2.1 hc9).2.1, ⟨⟨(H.2.1 hc9).2.2.1, (H.2.1 hc9).2.2.2.1⟩, lcm3_r _ _, fun hc6 => ((H.2.1 hc9).2.2.2.2.1 (lcm_ge.mp hc6)), fun hc6 => ((H.2.1 hc9).2.2.2.2.2 (fun q => hc6 (lcm_ge.mpr q)))⟩⟩⟩, fun hc9 => ⟨(H.2.2 hc9).1, ⟨⟨(H.2.2 hc9).2.1, by unfold r64; omega⟩, lcm3_r _ _, fun hc8 => ((H.2.2 hc9).2.2.1 (lcm_ne.mp hc8)), fun hc8 => ⟨((H.2.2 hc9).2.2.2 (fun q => hc8 (lcm_ne.mpr q))).1, ⟨⟨((H.2.2 hc9).2.2.2 (fun q => hc8 (lcm_ne.mpr q))).2.1, by unfold r64; omega⟩, lcm3_r _ _, fun hc7 => (((H.2.2 hc9).2.2.2 (fun q => hc8 (lcm_ne.mpr q))).2.2.1 (lcm_eq.mp hc7)), fun hc7 => (((H.2.2 hc9).2.2.2 (fun q => hc8 (lcm_ne.mpr q))).2.2.2 (fun q => hc7 (lcm_eq.mpr q)))⟩⟩⟩⟩⟩
set_option maxRecDepth 20000 in
theorem vc_X11_isLess_171 {R : Mem → Option AV → Prop} {x y z w tu sa le : Int} {μ : Mem} (H : r32 sa ∧ ((sa = 0) → (r64 x ∧ r64 y ∧ y ≠ 0) ∧ (r64 z ∧ r64 w ∧ w ≠ 0) ∧ r64 (Int.tdiv x y) ∧ r64 (Int.tdiv z w) ∧ (((Int.tdiv x y) ≤ (Int.tdiv z w)) → V_X11_isLess R 225 [(16, kI tu), (18, kI le), (19, kI 0)] μ) ∧ (¬ ((Int.tdiv x y) ≤ (Int.tdiv z w)) → V_X11_isLess R 225 [(16, kI tu), (18, kI le), (19, kI 1)] μ)) ∧ (¬ (sa = 0) → (r64 z ∧ r64 w ∧ w ≠ 0) ∧ r64 (Int.tmod z w) ∧ ((¬ (Int.tmod z w) = (0 : Int)) → V_X11_isLess R 225 [(16, kI tu), (18, kI le), (19, kI 0)] μ) ∧ (¬ (¬ (Int.tmod z w) = (0 : Int)) → (r64 x ∧ r64 y ∧ y ≠ 0) ∧ r64 (Int.tmod x y) ∧ (((Int.tmod x y) = (0 : Int)) → V_X11_isLess R 225 [(16, kI tu), (18, kI le), (19, kI 0)] μ) ∧ (¬ ((Int.tmod x y) = (0 : Int)) → V_X11_isLess R 225 [(16, kI tu), (18, kI le), (19, kI 1)] μ)))) : V_X11_isLess R 171 [(8, kL x), (10, kL y), (12, kL z), (14, kL w), (16, kI tu), (17, kI sa), (18, kI le)] μ := by
  refine vm_step2 mt_X11_isLess ok_X11_isLess [(17, [8, 10, 12, 14, 16]), (96, [8, 10, 12, 14, 16]), (117, [8, 10, 12, 14, 16, 17]), (171, [8, 10, 12, 14, 16, 17, 18]), (225, [16, 18, 19])] 1000 ?_
  show r32 sa ∧ ((sa = 0) → (r64 x ∧ r64 y ∧ y ≠ 0) ∧ (r64 z ∧ r64 w ∧ w ≠ 0) ∧ (r64 (Int.tdiv x y) ∧ r64 (Int.tdiv z w)) ∧ r32 (lcm3 (Int.tdiv x y) (Int.tdiv z w)) ∧ ((lcm3 (Int.tdiv x y) (Int.tdiv z w) ≤ 0) → V_X11_isLess R 225 [(16, kI tu), (18, kI le), (19, kI 0)] μ) ∧ (¬ (lcm3 (Int.tdiv x y) (Int.tdiv z w) ≤ 0) → V_X11_isLess R 225 [(16, kI tu), (18, kI le), (19, kI 1)] μ)) ∧ (¬ (sa = 0) → (r64 z ∧ r64 w ∧ w ≠ 0) ∧ (r64 (Int.tmod z w) ∧ r64 (0 : Int)) ∧ r32 (lcm3 (Int.tmod z w) (0 : Int)) ∧ ((¬ lcm3 (Int.tmod z w) (0 : Int) = 0) → V_X11_isLess R 225 [(16, kI tu), (18, kI le), (19, kI 0)] μ) ∧ (¬ (¬ lcm3 (Int.tmod z w) (0 : Int) = 0) → (r64 x ∧ r64 y ∧ y ≠ 0) ∧ (r64 (Int.tmod x y) ∧ r64 (0 : Int)) ∧ r32 (lcm3 (Int.tmod x y) (0 : Int)) ∧ ((lcm3 (Int.tmod x y) (0 : Int) = 0) → V_X11_isLess R 225 [(16, kI tu), (18, kI le), (19, kI 0)] μ) ∧ (¬ (lcm3 (Int.tmod x y) (0 : Int) = 0) → V_X11_isLess R 225 [(16, kI tu), (18, kI le), (19, kI 1)] μ)))
  exact ⟨H.1, fun hc13 => ⟨(H.2.1 hc13).1, ⟨(H.2.1 hc13).2.1, ⟨⟨(H.2.1 hc13).2.2.1, (H.2.1 hc13).2.2.2.1⟩, lcm3_r _ _, fun hc10 => ((H.2.1 hc13).2.2.2.2.1 (lcm_le.mp hc10)), fun hc10 => ((H.2.1 hc13).2.2.2.2.2 (fun q => hc10 (lcm_le.mpr q)))⟩⟩⟩, fun hc13 => ⟨(H.2.2 hc13).1, ⟨⟨(H.2.2 hc13).2.1, by unfold r64; omega⟩, lcm3_r _ _, fun hc12 => ((H.2.2 hc13).2.2.1 (lcm_ne.mp hc12)), fun hc12 => ⟨((H.2.2 hc13).2.2.2 (fun q => hc12 (lcm_ne.mpr q))).1, ⟨⟨((H.2.2 hc13).2.2.2 (fun q => hc12 (lcm_ne.mpr q))).2.1, by unfold r64; omega⟩, lcm3_r _ _, fun hc11 => (((H.2.2 hc13).2.2.2 (fun q => hc12 (lcm_ne.mpr q))).2.2.1 (lcm_eq.mp hc11)), fun hc11 => (((H.2.2 hc13).2.2.2 (fun q => hc12 (lcm_ne.mpr q))).2.2.2 (fun q => hc11 (lcm_eq.mpr q)))⟩⟩⟩⟩⟩
set_option maxRecDepth 20000 in
theorem vc_X11_isLess_225 {R : Mem → Option AV → Prop} {tu le gr : Int} {μ : Mem} (H : r32 tu ∧ ((tu = 0) → (0 ≤ le ∧ le ≤ 1) ∧ R μ (some (kI le))) ∧ (¬ (tu = 0) → (0 ≤ gr ∧ gr ≤ 1) ∧ R μ (some (kI gr)))) : V_X11_isLess R 225 [(16, kI tu), (18, kI le), (19, kI gr)] μ := by
  refine vm_step2 mt_X11_isLess ok_X11_isLess [(17, [8, 10, 12, 14, 16]), (96, [8, 10, 12, 14, 16]), (117, [8, 10, 12, 14, 16, 17]), (171, [8, 10, 12, 14, 16, 17, 18]), (225, [16, 18, 19])] 1000 ?_
  show r32 tu ∧ ((tu = 0) → (0 ≤ le ∧ le ≤ 1) ∧ R μ (some (kI le))) ∧ (¬ (tu = 0) → (0 ≤ gr ∧ gr ≤ 1) ∧ R μ (some (kI gr)))
  exact ⟨H.1, fun hc14 => (H.2.1 hc14), fun hc14 => (H.2.2 hc14)⟩
theorem body_X11_isLess {a b c d : Int} {μ : Mem} {R : Mem → Option AV → Prop} (h : P_X11_isLess a b c d μ) (hR : R μ (some (kI (F_X11_isLess a b c d μ)))) : V_X11_isLess R 0 [(0, kL a), (2, kL b), (4, kL c), (6, kL d)] μ := by
  unfold F_X11_isLess at hR
  obtain ⟨L, eL⟩ : ∃ L : Int, L = lessI a b c d := ⟨_, rfl⟩
  rw [← eL] at hR
  have key : ∀ (k : Nat) (x y z w tu : Int), y ≤ k → (0 ≤ x ∧ x ≤ 9223372036854775807) → (1 ≤ y ∧ y ≤ 9223372036854775807) → (0 ≤ z ∧ z ≤ 9223372036854775807) → (1 ≤ w ∧ w ≤ 9223372036854775807) → (tu = 0 ∨ tu = 1) → (tu = 0 → L = lessI x y z w) → (tu = 1 → L = lessI z w x y) → V_X11_isLess R 17 [(8, kL x), (10, kL y), (12, kL z), (14, kL w), (16, kI tu)] μ := by
    intro k
    induction k with
    | zero => intro x y z w tu hk _ hy; omega
    | succ k ih =>
      intro x y z w tu hk hx hy hz hw htu l00 l11
      have l0 : Unit → (tu = 0 → L = lessI x y z w) := fun _ => l00
      have l1 : Unit → (tu = 1 → L = lessI z w x y) := fun _ => l11
      have t1 : Int.tdiv x y = x / y := Int.tdiv_eq_ediv_of_nonneg hx.1
      have t2 : Int.tdiv z w = z / w := Int.tdiv_eq_ediv_of_nonneg hz.1
      have s1 : Int.tmod x y = x % y := Int.tmod_eq_emod_of_nonneg hx.1
      have s2 : Int.tmod z w = z % w := Int.tmod_eq_emod_of_nonneg hz.1
      have m1 : 0 ≤ x % y ∧ x % y < y := ⟨Int.emod_nonneg _ (by omega), Int.emod_lt_of_pos _ (by omega)⟩
      have m2 : 0 ≤ z % w ∧ z % w < w := ⟨Int.emod_nonneg _ (by omega), Int.emod_lt_of_pos _ (by omega)⟩
      have b1 : 0 ≤ x / y ∧ x / y ≤ x := ⟨Int.ediv_nonneg hx.1 (by omega), Int.ediv_le_self _ hx.1⟩
      have b2 : 0 ≤ z / w ∧ z / w ≤ z := ⟨Int.ediv_nonneg hz.1 (by omega), Int.ediv_le_self _ hz.1⟩
      have f1 : Unit → (x / y < z / w → lessI x y z w = 1 ∧ lessI z w x y = 0) := fun _ q => by
        have := lt_q (show 0 < y by omega) (show 0 < w by omega) q
        exact ⟨if_pos this, if_neg (by omega)⟩
      have f2 : Unit → (z / w < x / y → lessI x y z w = 0 ∧ lessI z w x y = 1) := fun _ q => by
        have := lt_q (show 0 < w by omega) (show 0 < y by omega) q
        exact ⟨if_neg (by omega), if_pos this⟩
      have f3 : Unit → (x / y = z / w → x % y = 0 → z % w = 0 → lessI x y z w = 0 ∧ lessI z w x y = 0) := fun _ q r s => by
        have h1 := eq_q q
        have h2 := eq_q q.symm
        rw [r, s, Int.zero_mul, Int.zero_mul] at h1 h2
        exact ⟨if_neg (by omega), if_neg (by omega)⟩
      have f4 : Unit → (x / y = z / w → x % y = 0 → z % w ≠ 0 → lessI x y z w = 1 ∧ lessI z w x y = 0) := fun _ q r s => by
        have h1 := eq_q q
        have h3 : 0 < z % w * y := Int.mul_pos (by omega) (by omega)
        rw [r, Int.zero_mul] at h1
        have := h1.mpr h3
        exact ⟨if_pos this, if_neg (by omega)⟩
      have f5 : Unit → (x / y = z / w → x % y ≠ 0 → z % w = 0 → lessI x y z w = 0 ∧ lessI z w x y = 1) := fun _ q r s => by
        have h1 := eq_q q.symm
        have h3 : 0 < x % y * w := Int.mul_pos (by omega) (by omega)
        rw [s, Int.zero_mul] at h1
        have := h1.mpr h3
        exact ⟨if_neg (by omega), if_pos this⟩
      have go0 : Unit → (x / y = z / w → x % y ≠ 0 → z % w ≠ 0 → tu ≠ 0 → V_X11_isLess R 17 [(8, kL y), (10, kL (x % y)), (12, kL w), (14, kL (z % w)), (16, kI 0)] μ) := fun _ q r s t => by
        refine ih y (x % y) w (z % w) 0 (by omega) (by omega) (by omega) (by omega) (by omega) (Or.inl rfl) (fun _ => ?_) (fun c => absurd c (by omega))
        rw [l1 () (htu.resolve_left t)]
        exact less_turn (by omega) (by omega) q.symm
      have go1 : Unit → (x / y = z / w → x % y ≠ 0 → z % w ≠ 0 → tu = 0 → V_X11_isLess R 17 [(8, kL y), (10, kL (x % y)), (12, kL w), (14, kL (z % w)), (16, kI 1)] μ) := fun _ q r s t => by
        refine ih y (x % y) w (z % w) 1 (by omega) (by omega) (by omega) (by omega) (by omega) (Or.inr rfl) (fun c => absurd c (by omega)) (fun _ => ?_)
        rw [l0 () t]
        exact less_turn (by omega) (by omega) q
      have d1 : r64 x ∧ r64 y ∧ y ≠ 0 := ⟨rl (by omega), rl (by omega), by omega⟩
      have d2 : r64 z ∧ r64 w ∧ w ≠ 0 := ⟨rl (by omega), rl (by omega), by omega⟩
      have e1 : r64 (x / y) := rl (by omega)
      have e2 : r64 (z / w) := rl (by omega)
      have e3 : r64 (x % y) := rl (by omega)
      have e4 : r64 (z % w) := rl (by omega)
      have e5 : r32 tu := rr (by omega)
      have leaf : ∀ c : Int, c = L → R μ (some (kI c)) := fun c hc => by rw [hc]; exact hR
      have ltb : 0 ≤ lessI x y z w ∧ lessI x y z w ≤ 1 := by unfold lessI; split <;> omega
      have gtb : 0 ≤ lessI z w x y ∧ lessI z w x y ≤ 1 := by unfold lessI; split <;> omega
      clear ih eL hR l00 l11
      generalize lessI x y z w = lt at *
      generalize lessI z w x y = gt at *
      generalize x / y = q1 at *
      generalize z / w = q2 at *
      generalize x % y = r1 at *
      generalize z % w = r2 at *
      have tail : (q1 = q2 → ¬ (r1 ≠ 0 ∧ r2 ≠ 0)) → V_X11_isLess R 96 [(8, kL x), (10, kL y), (12, kL z), (14, kL w), (16, kI tu)] μ := fun nb => by
        have v225 : ∀ le gr : Int, le = lt → gr = gt → V_X11_isLess R 225 [(16, kI tu), (18, kI le), (19, kI gr)] μ := fun le gr h1 h2 =>
          vc_X11_isLess_225 ⟨e5, fun t => ⟨by omega, leaf le (by rw [h1, l0 () t])⟩, fun t => ⟨by omega, leaf gr (by rw [h2, l1 () (htu.resolve_left t)])⟩⟩
        have v171 : ∀ sa le : Int, (sa = 0 ∧ q1 ≠ q2 ∨ sa = 1 ∧ q1 = q2) → le = lt → V_X11_isLess R 171 [(8, kL x), (10, kL y), (12, kL z), (14, kL w), (16, kI tu), (17, kI sa), (18, kI le)] μ := fun sa le hs hle => by
          refine vc_X11_isLess_171 ?_
          rw [t1, t2, s1, s2]
          refine ⟨rr (by omega), fun c => ⟨d1, d2, e1, e2, fun g => v225 le 0 hle ?_, fun g => v225 le 1 hle ?_⟩, fun c => ⟨d2, e4, fun g => v225 le 0 hle ?_, fun g => ⟨d1, e3, fun k => v225 le 0 hle ?_, fun k => v225 le 1 hle ?_⟩⟩⟩
          · exact ((f1 () (by omega)).2).symm
          · exact ((f2 () (by omega)).2).symm
          · by_cases r : r1 = 0
            · exact ((f4 () (by omega) r g).2).symm
            · exact absurd ⟨r, g⟩ (nb (by omega))
          · exact ((f3 () (by omega) k (Classical.not_not.mp g)).2).symm
          · exact ((f5 () (by omega) k (Classical.not_not.mp g)).2).symm
        have v96 : V_X11_isLess R 96 [(8, kL x), (10, kL y), (12, kL z), (14, kL w), (16, kI tu)] μ := by
          have v117 : ∀ sa : Int, (sa = 0 ∧ q1 ≠ q2 ∨ sa = 1 ∧ q1 = q2) → V_X11_isLess R 117 [(8, kL x), (10, kL y), (12, kL z), (14, kL w), (16, kI tu), (17, kI sa)] μ := fun sa hs => by
            refine vc_X11_isLess_117 ?_
            rw [t1, t2, s1, s2]
            refine ⟨rr (by omega), fun c => ⟨d1, d2, e1, e2, fun g => v171 sa 0 hs ?_, fun g => v171 sa 1 hs ?_⟩, fun c => ⟨d1, e3, fun g => v171 sa 0 hs ?_, fun g => ⟨d2, e4, fun k => v171 sa 0 hs ?_, fun k => v171 sa 1 hs ?_⟩⟩⟩
            · exact ((f2 () (by omega)).1).symm
            · exact ((f1 () (by omega)).1).symm
            · by_cases r : r2 = 0
              · exact ((f5 () (by omega) g r).1).symm
              · exact absurd ⟨g, r⟩ (nb (by omega))
            · exact ((f3 () (by omega) (Classical.not_not.mp g) k).1).symm
            · exact ((f4 () (by omega) (Classical.not_not.mp g) k).1).symm
          refine vc_X11_isLess_96 ?_
          rw [t1, t2]
          exact ⟨d1, d2, e1, e2, fun c => v117 0 (Or.inl ⟨rfl, c⟩), fun c => v117 1 (Or.inr ⟨rfl, Classical.not_not.mp c⟩)⟩
        exact v96
      refine vc_X11_isLess_17 ?_
      rw [t1, t2, s1, s2]
      refine ⟨d1, d2, e1, e2, fun c => tail (fun q => absurd q c), fun c => ⟨d1, e3, fun g => tail (fun _ q => q.1 g), fun g => ⟨d2, e4, fun k => tail (fun _ q => q.2 k), fun k => ⟨d1, d2, e5, fun t => go0 () (Classical.not_not.mp c) g k t, fun t => go1 () (Classical.not_not.mp c) g k (Classical.not_not.mp t)⟩⟩⟩⟩
  exact vc_X11_isLess_0 (key b.toNat a b c d 0 (by omega) h.1 h.2.1 h.2.2.1 h.2.2.2 (Or.inl rfl) (fun _ => eL) (fun q => absurd q (by omega)))
theorem ct_X11_isLess : Ct mX11_isLess 0 0 0 0 (nrmS S_X11_isLess) := by
  refine ct_vm (own := RX11) (by decide +kernel) rfl ?_ ?_
  · intro as μ Q hS
    unfold S_X11_isLess at hS
    split at hS
    · exact Nat.le_of_ble_eq_true rfl
    · exact hS.elim
  · intro as μ R hS
    unfold S_X11_isLess at hS
    split at hS
    · exact body_X11_isLess hS.1 hS.2
    · exact hS.elim
