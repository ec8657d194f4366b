def P_X11_town (o k : Int) (μ : Mem) : Prop := o = 201 ∧ SOk (stM μ) ∧ r32 k
def Q_X11_town (_ k : Int) (μ μ' : Mem) (r : Int) : Prop := ChgM (townS (stM μ) k) μ μ' r
def S_X11_town : S0t := fun as μ Q => match as with
  | [(2, x0), (0, x1)] => P_X11_town x0 x1 μ ∧ ∀ (μ' : Mem) (r : Int), Q_X11_town x0 x1 μ μ' r → Q μ' (some (kI r))
  | _ => False
theorem mono_X11_town : Mono S_X11_town := by
  intro as μ Q Q' h hS
  unfold S_X11_town at hS ⊢
  split at hS
  · exact ⟨hS.1, fun μ' r q => h _ _ (hS.2 _ _ q)⟩
  · exact hS.elim
def iX11_town : Inf := (kX11_town, fTX11, pTX11, cTX11, lTX11, sTX11, [(194, 0, 0, 11, S_X11_begins), (162, 1, 3, 0, S_X11_isIn), (170, 0, 0, 11, S_X11_advance), (159, 0, 0, 11, S_X11_ends), (173, 0, 2, 11, S_X11_numbered), (188, 0, 0, 11, S_X11_endsLine), (200, 0, 0, 11, S_X11_wrongWhole), (166, 0, 2, 11, S_X11_also), (197, 0, 0, 11, S_X11_aLine)])
theorem ok_X11_town : infOK iX11_town mX11_town RX11 8 181 := ⟨kkX11_town, fTX11_ok, pTX11_ok _, cTX11_ok, lTX11_ok, sTX11_ok, c_cons ⟨mX11_begins, 0, 0, ct_X11_begins, mmX11_begins, vvX11_begins, lkX11_194, ⟨by decide, by decide⟩, ⟨_, _, rfl⟩, by decide, mono_X11_begins⟩ (c_cons ⟨mX11_isIn, 0, 0, ct_X11_isIn, mmX11_isIn, stX11_isIn, lkX11_162, ⟨by decide, by decide⟩, mono_X11_isIn⟩ (c_cons ⟨mX11_advance, 3, 66, ct_X11_advance, mmX11_advance, vvX11_advance, lkX11_170, ⟨by decide, by decide⟩, ⟨_, _, rfl⟩, by decide, mono_X11_advance⟩ (c_cons ⟨mX11_ends, 0, 0, ct_X11_ends, mmX11_ends, vvX11_ends, lkX11_159, ⟨by decide, by decide⟩, ⟨_, _, rfl⟩, by decide, mono_X11_ends⟩ (c_cons ⟨mX11_numbered, 4, 89, ct_X11_numbered, mmX11_numbered, vvX11_numbered, lkX11_173, ⟨by decide, by decide⟩, ⟨_, _, rfl⟩, by decide, mono_X11_numbered⟩ (c_cons ⟨mX11_endsLine, 4, 89, ct_X11_endsLine, mmX11_endsLine, vvX11_endsLine, lkX11_188, ⟨by decide, by decide⟩, ⟨_, _, rfl⟩, by decide, mono_X11_endsLine⟩ (c_cons ⟨mX11_wrongWhole, 1, 23, ct_X11_wrongWhole, mmX11_wrongWhole, vvX11_wrongWhole, lkX11_200, ⟨by decide, by decide⟩, ⟨_, _, rfl⟩, by decide, mono_X11_wrongWhole⟩ (c_cons ⟨mX11_also, 0, 0, ct_X11_also, mmX11_also, vvX11_also, lkX11_166, ⟨by decide, by decide⟩, ⟨_, _, rfl⟩, by decide, mono_X11_also⟩ (c_cons ⟨mX11_aLine, 7, 158, ct_X11_aLine, mmX11_aLine, vvX11_aLine, lkX11_197, ⟨by decide, by decide⟩, ⟨_, _, rfl⟩, by decide, mono_X11_aLine⟩ (c_nil)))))))))⟩
theorem mt_X11_town : mtOK [] RX11 8 181 := mt_nil
abbrev V_X11_town (R : Mem → Option AV → Prop) (pc : Nat) (lc : List (Nat × AV)) (μ : Mem) : Prop := VM mX11_town RX11 8 181 R pc lc [] μ
set_option maxRecDepth 20000 in
theorem vc_X11_town_0 {R : Mem → Option AV → Prop} {k : Int} {μ : Mem} (H : P_X11_begins 201 μ ∧ (∀ (μ1 : Mem), Q_X11_begins 201 μ μ1 → V_X11_town R 4 [(0, kR 201), (1, kI k)] μ1)) : V_X11_town R 0 [(0, kR 201), (1, kI k)] μ := by
  refine vm_step2 mt_X11_town ok_X11_town [(4, [0, 1]), (45, [0, 1]), (65, [0, 1]), (72, [0, 1]), (85, [0, 1]), (89, [0, 1]), (107, [0, 1]), (138, [0, 1]), (180, [0, 2]), (182, [0, 2, 3]), (221, [0, 2, 3])] 1000 ?_
  show isC 201 11 ∧ P_X11_begins 201 μ ∧ (∀ (μ1 : Mem), Q_X11_begins 201 μ μ1 → V_X11_town R 4 [(0, kR 201), (1, kI k)] μ1)
  exact ⟨c_201, H.1, fun μ1 hq3 => (H.2 μ1 hq3)⟩
set_option maxRecDepth 20000 in
theorem vc_X11_town_4 {R : Mem → Option AV → Prop} {k : Int} {μ : Mem} (H : r32 k ∧ ((¬ k = (-1 : Int)) → P_X11_isIn k 0 ((μ 202 0) - 1) μ ∧ r32 (F_X11_isIn k 0 ((μ 202 0) - 1) μ) ∧ ((¬ (F_X11_isIn k 0 ((μ 202 0) - 1) μ) = 0) → P_X11_advance 201 μ ∧ (∀ (μ4 : Mem), Q_X11_advance 201 μ μ4 → V_X11_town R 45 [(0, kR 201), (1, kI k)] μ4)) ∧ (¬ (¬ (F_X11_isIn k 0 ((μ 202 0) - 1) μ) = 0) → R μ (some (kI (-2))))) ∧ (¬ (¬ k = (-1 : Int)) → r32 (μ 202 0) ∧ ((¬ (μ 202 0) = (3 : Int)) → P_X11_advance 201 μ ∧ (∀ (μ8 : Mem), Q_X11_advance 201 μ μ8 → V_X11_town R 45 [(0, kR 201), (1, kI k)] μ8)) ∧ (¬ (¬ (μ 202 0) = (3 : Int)) → R μ (some (kI (-2)))))) : V_X11_town R 4 [(0, kR 201), (1, kI k)] μ := by
  refine vm_step2 mt_X11_town ok_X11_town [(4, [0, 1]), (45, [0, 1]), (65, [0, 1]), (72, [0, 1]), (85, [0, 1]), (89, [0, 1]), (107, [0, 1]), (138, [0, 1]), (180, [0, 2]), (182, [0, 2, 3]), (221, [0, 2, 3])] 1000 ?_
  show (r32 k ∧ r32 (-1 : Int)) ∧ ((¬ k = (-1 : Int)) → isC 201 11 ∧ inA 202 0 (0 : Int) ∧ P_X11_isIn k 0 ((μ 202 0) - 1) μ ∧ r32 (F_X11_isIn k 0 ((μ 202 0) - 1) μ) ∧ ((¬ (F_X11_isIn k 0 ((μ 202 0) - 1) μ) = 0) → isC 201 11 ∧ P_X11_advance 201 μ ∧ (∀ (μ4 : Mem), Q_X11_advance 201 μ μ4 → V_X11_town R 45 [(0, kR 201), (1, kI k)] μ4)) ∧ (¬ (¬ (F_X11_isIn k 0 ((μ 202 0) - 1) μ) = 0) → R μ (some (kI (-2))))) ∧ (¬ (¬ k = (-1 : Int)) → isC 201 11 ∧ inA 202 0 (0 : Int) ∧ (r32 (μ 202 0) ∧ r32 (3 : Int)) ∧ ((¬ (μ 202 0) = (3 : Int)) → isC 201 11 ∧ P_X11_advance 201 μ ∧ (∀ (μ8 : Mem), Q_X11_advance 201 μ μ8 → V_X11_town R 45 [(0, kR 201), (1, kI k)] μ8)) ∧ (¬ (¬ (μ 202 0) = (3 : Int)) → R μ (some (kI (-2)))))
  exact ⟨⟨H.1, by unfold r32; omega⟩, fun hc12 => ⟨c_201, ⟨isArr.in a_202 (by omega) (by omega), ⟨(H.2.1 hc12).1, ⟨(H.2.1 hc12).2.1, fun hc7 => ⟨c_201, ((H.2.1 hc12).2.2.1 hc7).1, fun μ4 hq6 => (((H.2.1 hc12).2.2.1 hc7).2 μ4 hq6)⟩, fun hc7 => ((H.2.1 hc12).2.2.2 hc7)⟩⟩⟩⟩, fun hc12 => ⟨c_201, ⟨isArr.in a_202 (by omega) (by omega), ⟨⟨(H.2.2 hc12).1, by unfold r32; omega⟩, fun hc11 => ⟨c_201, ((H.2.2 hc12).2.1 hc11).1, fun μ8 hq10 => (((H.2.2 hc12).2.1 hc11).2 μ8 hq10)⟩, fun hc11 => ((H.2.2 hc12).2.2 hc11)⟩⟩⟩⟩
set_option maxRecDepth 20000 in
theorem vc_X11_town_45 {R : Mem → Option AV → Prop} {k : Int} {μ : Mem} (H : r32 (μ 201 5) ∧ ((¬ (μ 201 5) = (3 : Int)) → P_X11_ends 201 μ ∧ (∀ (μ13 : Mem), Q_X11_ends 201 μ μ13 → V_X11_town R 72 [(0, kR 201), (1, kI k)] μ13)) ∧ (¬ (¬ (μ 201 5) = (3 : Int)) → r32 (μ 201 7) ∧ ((¬ (μ 201 7) = (1 : Int)) → P_X11_ends 201 μ ∧ (∀ (μ16 : Mem), Q_X11_ends 201 μ μ16 → V_X11_town R 72 [(0, kR 201), (1, kI k)] μ16)) ∧ (¬ (¬ (μ 201 7) = (1 : Int)) → P_X11_advance 201 μ ∧ (∀ (μ19 : Mem), Q_X11_advance 201 μ μ19 → V_X11_town R 65 [(0, kR 201), (1, kI k)] μ19)))) : V_X11_town R 45 [(0, kR 201), (1, kI k)] μ := by
  refine vm_step2 mt_X11_town ok_X11_town [(4, [0, 1]), (45, [0, 1]), (65, [0, 1]), (72, [0, 1]), (85, [0, 1]), (89, [0, 1]), (107, [0, 1]), (138, [0, 1]), (180, [0, 2]), (182, [0, 2, 3]), (221, [0, 2, 3])] 1000 ?_
  show isC 201 11 ∧ (r32 (μ 201 5) ∧ r32 (3 : Int)) ∧ ((¬ (μ 201 5) = (3 : Int)) → isC 201 11 ∧ P_X11_ends 201 μ ∧ (∀ (μ13 : Mem), Q_X11_ends 201 μ μ13 → V_X11_town R 72 [(0, kR 201), (1, kI k)] μ13)) ∧ (¬ (¬ (μ 201 5) = (3 : Int)) → isC 201 11 ∧ (r32 (μ 201 7) ∧ r32 (1 : Int)) ∧ ((¬ (μ 201 7) = (1 : Int)) → isC 201 11 ∧ P_X11_ends 201 μ ∧ (∀ (μ16 : Mem), Q_X11_ends 201 μ μ16 → V_X11_town R 72 [(0, kR 201), (1, kI k)] μ16)) ∧ (¬ (¬ (μ 201 7) = (1 : Int)) → isC 201 11 ∧ P_X11_advance 201 μ ∧ (∀ (μ19 : Mem), Q_X11_advance 201 μ μ19 → V_X11_town R 65 [(0, kR 201), (1, kI k)] μ19)))
  exact ⟨c_201, ⟨⟨H.1, by unfold r32; omega⟩, fun hc23 => ⟨c_201, (H.2.1 hc23).1, fun μ13 hq15 => ((H.2.1 hc23).2 μ13 hq15)⟩, fun hc23 => ⟨c_201, ⟨⟨(H.2.2 hc23).1, by unfold r32; omega⟩, fun hc22 => ⟨c_201, ((H.2.2 hc23).2.1 hc22).1, fun μ16 hq18 => (((H.2.2 hc23).2.1 hc22).2 μ16 hq18)⟩, fun hc22 => ⟨c_201, ((H.2.2 hc23).2.2 hc22).1, fun μ19 hq21 => (((H.2.2 hc23).2.2 hc22).2 μ19 hq21)⟩⟩⟩⟩⟩
set_option maxRecDepth 20000 in
theorem vc_X11_town_65 {R : Mem → Option AV → Prop} {k : Int} {μ : Mem} (H : V_X11_town R 72 [(0, kR 201), (1, kI k)] μ) : V_X11_town R 65 [(0, kR 201), (1, kI k)] μ := by
  refine vm_step2 mt_X11_town ok_X11_town [(4, [0, 1]), (45, [0, 1]), (65, [0, 1]), (72, [0, 1]), (85, [0, 1]), (89, [0, 1]), (107, [0, 1]), (138, [0, 1]), (180, [0, 2]), (182, [0, 2, 3]), (221, [0, 2, 3])] 1000 ?_
  show V_X11_town R 72 [(0, kR 201), (1, kI k)] μ
  exact H
set_option maxRecDepth 20000 in
theorem vc_X11_town_72 {R : Mem → Option AV → Prop} {k : Int} {μ : Mem} (H : P_X11_numbered 201 2 8 μ ∧ (∀ (μ24 : Mem) (rv25 : Int), Q_X11_numbered 201 2 8 μ μ24 rv25 → V_X11_town R 85 [(0, kR 201), (1, kI k)] (updm μ24 204 0 rv25))) : V_X11_town R 72 [(0, kR 201), (1, kI k)] μ := by
  refine vm_step2 mt_X11_town ok_X11_town [(4, [0, 1]), (45, [0, 1]), (65, [0, 1]), (72, [0, 1]), (85, [0, 1]), (89, [0, 1]), (107, [0, 1]), (138, [0, 1]), (180, [0, 2]), (182, [0, 2, 3]), (221, [0, 2, 3])] 1000 ?_
  show isC 201 11 ∧ isC 201 11 ∧ P_X11_numbered 201 2 8 μ ∧ (∀ (μ24 : Mem) (rv25 : Int), Q_X11_numbered 201 2 8 μ μ24 rv25 → inA 204 0 (0 : Int) ∧ V_X11_town R 85 [(0, kR 201), (1, kI k)] (updm μ24 204 0 rv25))
  exact ⟨c_201, ⟨c_201, H.1, fun μ24 rv25 hq26 => ⟨isArr.in a_204 (by omega) (by omega), (H.2 μ24 rv25 hq26)⟩⟩⟩
set_option maxRecDepth 20000 in
theorem vc_X11_town_85 {R : Mem → Option AV → Prop} {k : Int} {μ : Mem} (H : P_X11_endsLine 201 μ ∧ (∀ (μ27 : Mem), Q_X11_endsLine 201 μ μ27 → V_X11_town R 89 [(0, kR 201), (1, kI k)] μ27)) : V_X11_town R 85 [(0, kR 201), (1, kI k)] μ := by
  refine vm_step2 mt_X11_town ok_X11_town [(4, [0, 1]), (45, [0, 1]), (65, [0, 1]), (72, [0, 1]), (85, [0, 1]), (89, [0, 1]), (107, [0, 1]), (138, [0, 1]), (180, [0, 2]), (182, [0, 2, 3]), (221, [0, 2, 3])] 1000 ?_
  show isC 201 11 ∧ P_X11_endsLine 201 μ ∧ (∀ (μ27 : Mem), Q_X11_endsLine 201 μ μ27 → V_X11_town R 89 [(0, kR 201), (1, kI k)] μ27)
  exact ⟨c_201, H.1, fun μ27 hq29 => (H.2 μ27 hq29)⟩
set_option maxRecDepth 20000 in
theorem vc_X11_town_89 {R : Mem → Option AV → Prop} {k : Int} {μ : Mem} (H : r32 (μ 201 8) ∧ ((¬ (μ 201 8) = 0) → r32 (μ 202 3) ∧ ((¬ (μ 202 3) = 0) → V_X11_town R 138 [(0, kR 201), (1, kI k)] μ) ∧ (¬ (¬ (μ 202 3) = 0) → P_X11_wrongWhole 201 μ ∧ (∀ (rv31 : Int), Q_X11_wrongWhole 201 μ rv31 → r32 rv31 ∧ ((rv31 ≤ 0) → V_X11_town R 138 [(0, kR 201), (1, kI k)] μ) ∧ (¬ (rv31 ≤ 0) → P_X11_wrongWhole 201 μ ∧ (∀ (rv34 : Int), Q_X11_wrongWhole 201 μ rv34 → P_X11_also 201 rv34 (μ 201 4) μ ∧ (∀ (μ36 : Mem), Q_X11_also 201 rv34 (μ 201 4) μ μ36 → V_X11_town R 138 [(0, kR 201), (1, kI k)] μ36)))))) ∧ (¬ (¬ (μ 201 8) = 0) → r32 (μ 201 5) ∧ (((μ 201 5) = 0) → r32 (μ 202 3) ∧ ((¬ (μ 202 3) = 0) → V_X11_town R 138 [(0, kR 201), (1, kI k)] μ) ∧ (¬ (¬ (μ 202 3) = 0) → P_X11_wrongWhole 201 μ ∧ (∀ (rv42 : Int), Q_X11_wrongWhole 201 μ rv42 → r32 rv42 ∧ ((rv42 ≤ 0) → V_X11_town R 138 [(0, kR 201), (1, kI k)] μ) ∧ (¬ (rv42 ≤ 0) → P_X11_wrongWhole 201 μ ∧ (∀ (rv45 : Int), Q_X11_wrongWhole 201 μ rv45 → P_X11_also 201 rv45 (μ 201 4) μ ∧ (∀ (μ47 : Mem), Q_X11_also 201 rv45 (μ 201 4) μ μ47 → V_X11_town R 138 [(0, kR 201), (1, kI k)] μ47)))))) ∧ (¬ ((μ 201 5) = 0) → P_X11_aLine 201 μ ∧ (∀ (μ52 : Mem), Q_X11_aLine 201 μ μ52 → V_X11_town R 107 [(0, kR 201), (1, kI k)] μ52)))) : V_X11_town R 89 [(0, kR 201), (1, kI k)] μ := by
  refine vm_step2 mt_X11_town ok_X11_town [(4, [0, 1]), (45, [0, 1]), (65, [0, 1]), (72, [0, 1]), (85, [0, 1]), (89, [0, 1]), (107, [0, 1]), (138, [0, 1]), (180, [0, 2]), (182, [0, 2, 3]), (221, [0, 2, 3])] 1000 ?_
  show isC 201 11 ∧ r32 (μ 201 8) ∧ ((¬ (μ 201 8) = 0) → isC 201 11 ∧ inA 202 0 (3 : Int) ∧ r32 (μ 202 3) ∧ ((¬ (μ 202 3) = 0) → V_X11_town R 138 [(0, kR 201), (1, kI k)] μ) ∧ (¬ (¬ (μ 202 3) = 0) → isC 201 11 ∧ P_X11_wrongWhole 201 μ ∧ (∀ (rv31 : Int), Q_X11_wrongWhole 201 μ rv31 → r32 rv31 ∧ ((rv31 ≤ 0) → V_X11_town R 138 [(0, kR 201), (1, kI k)] μ) ∧ (¬ (rv31 ≤ 0) → isC 201 11 ∧ P_X11_wrongWhole 201 μ ∧ (∀ (rv34 : Int), Q_X11_wrongWhole 201 μ rv34 → isC 201 11 ∧ isC 201 11 ∧ P_X11_also 201 rv34 (μ 201 4) μ ∧ (∀ (μ36 : Mem), Q_X11_also 201 rv34 (μ 201 4) μ μ36 → V_X11_town R 138 [(0, kR 201), (1, kI k)] μ36)))))) ∧ (¬ (¬ (μ 201 8) = 0) → isC 201 11 ∧ r32 (μ 201 5) ∧ (((μ 201 5) = 0) → isC 201 11 ∧ inA 202 0 (3 : Int) ∧ r32 (μ 202 3) ∧ ((¬ (μ 202 3) = 0) → V_X11_town R 138 [(0, kR 201), (1, kI k)] μ) ∧ (¬ (¬ (μ 202 3) = 0) → isC 201 11 ∧ P_X11_wrongWhole 201 μ ∧ (∀ (rv42 : Int), Q_X11_wrongWhole 201 μ rv42 → r32 rv42 ∧ ((rv42 ≤ 0) → V_X11_town R 138 [(0, kR 201), (1, kI k)] μ) ∧ (¬ (rv42 ≤ 0) → isC 201 11 ∧ P_X11_wrongWhole 201 μ ∧ (∀ (rv45 : Int), Q_X11_wrongWhole 201 μ rv45 → isC 201 11 ∧ isC 201 11 ∧ P_X11_also 201 rv45 (μ 201 4) μ ∧ (∀ (μ47 : Mem), Q_X11_also 201 rv45 (μ 201 4) μ μ47 → V_X11_town R 138 [(0, kR 201), (1, kI k)] μ47)))))) ∧ (¬ ((μ 201 5) = 0) → isC 201 11 ∧ P_X11_aLine 201 μ ∧ (∀ (μ52 : Mem), Q_X11_aLine 201 μ μ52 → V_X11_town R 107 [(0, kR 201), (1, kI k)] μ52)))
  exact ⟨c_201, ⟨H.1, fun hc56 => ⟨c_201, ⟨isArr.in a_202 (by omega) (by omega), ⟨(H.2.1 hc56).1, fun hc40 => ((H.2.1 hc56).2.1 hc40), fun hc40 => ⟨c_201, ((H.2.1 hc56).2.2 hc40).1, fun rv31 hq32 => ⟨(((H.2.1 hc56).2.2 hc40).2 rv31 hq32).1, fun hc39 => ((((H.2.1 hc56).2.2 hc40).2 rv31 hq32).2.1 hc39), fun hc39 => ⟨c_201, ((((H.2.1 hc56).2.2 hc40).2 rv31 hq32).2.2 hc39).1, fun rv34 hq35 => ⟨c_201, ⟨c_201, (((((H.2.1 hc56).2.2 hc40).2 rv31 hq32).2.2 hc39).2 rv34 hq35).1, fun μ36 hq38 => ((((((H.2.1 hc56).2.2 hc40).2 rv31 hq32).2.2 hc39).2 rv34 hq35).2 μ36 hq38)⟩⟩⟩⟩⟩⟩⟩⟩, fun hc56 => ⟨c_201, ⟨(H.2.2 hc56).1, fun hc55 => ⟨c_201, ⟨isArr.in a_202 (by omega) (by omega), ⟨((H.2.2 hc56).2.1 hc55).1, fun hc51 => (((H.2.2 hc56).2.1 hc55).2.1 hc51), fun hc51 => ⟨c_201, (((H.2.2 hc56).2.1 hc55).2.2 hc51).1, fun rv42 hq43 => ⟨((((H.2.2 hc56).2.1 hc55).2.2 hc51).2 rv42 hq43).1, fun hc50 => (((((H.2.2 hc56).2.1 hc55).2.2 hc51).2 rv42 hq43).2.1 hc50), fun hc50 => ⟨c_201, (((((H.2.2 hc56).2.1 hc55).2.2 hc51).2 rv42 hq43).2.2 hc50).1, fun rv45 hq46 => ⟨c_201, ⟨c_201, ((((((H.2.2 hc56).2.1 hc55).2.2 hc51).2 rv42 hq43).2.2 hc50).2 rv45 hq46).1, fun μ47 hq49 => (((((((H.2.2 hc56).2.1 hc55).2.2 hc51).2 rv42 hq43).2.2 hc50).2 rv45 hq46).2 μ47 hq49)⟩⟩⟩⟩⟩⟩⟩⟩, fun hc55 => ⟨c_201, ((H.2.2 hc56).2.2 hc55).1, fun μ52 hq54 => (((H.2.2 hc56).2.2 hc55).2 μ52 hq54)⟩⟩⟩⟩⟩
set_option maxRecDepth 20000 in
theorem vc_X11_town_107 {R : Mem → Option AV → Prop} {k : Int} {μ : Mem} (H : V_X11_town R 89 [(0, kR 201), (1, kI k)] μ) : V_X11_town R 107 [(0, kR 201), (1, kI k)] μ := by
  refine vm_step2 mt_X11_town ok_X11_town [(4, [0, 1]), (45, [0, 1]), (65, [0, 1]), (72, [0, 1]), (85, [0, 1]), (89, [0, 1]), (107, [0, 1]), (138, [0, 1]), (180, [0, 2]), (182, [0, 2, 3]), (221, [0, 2, 3])] 1000 ?_
  show V_X11_town R 89 [(0, kR 201), (1, kI k)] μ
  exact H
set_option maxRecDepth 20000 in
theorem vc_X11_town_138 {R : Mem → Option AV → Prop} {k : Int} {μ : Mem} (H : r32 (μ 202 3) ∧ (((μ 202 3) = 0) → r32 k ∧ ((¬ k = (-1 : Int)) → r32 k ∧ ((¬ k = (-1 : Int)) → V_X11_town R 180 [(0, kR 201), (2, kI k)] μ) ∧ (¬ (¬ k = (-1 : Int)) → V_X11_town R 180 [(0, kR 201), (2, kI k)] (updm μ 202 0 ((μ 202 0) + 1)))) ∧ (¬ (¬ k = (-1 : Int)) → r32 k ∧ ((¬ k = (-1 : Int)) → V_X11_town R 180 [(0, kR 201), (2, kI (μ 202 0))] μ) ∧ (¬ (¬ k = (-1 : Int)) → V_X11_town R 180 [(0, kR 201), (2, kI (μ 202 0))] (updm μ 202 0 ((μ 202 0) + 1))))) ∧ (¬ ((μ 202 3) = 0) → R μ (some (kI (-1))))) : V_X11_town R 138 [(0, kR 201), (1, kI k)] μ := by
  refine vm_step2 mt_X11_town ok_X11_town [(4, [0, 1]), (45, [0, 1]), (65, [0, 1]), (72, [0, 1]), (85, [0, 1]), (89, [0, 1]), (107, [0, 1]), (138, [0, 1]), (180, [0, 2]), (182, [0, 2, 3]), (221, [0, 2, 3])] 1000 ?_
  show isC 201 11 ∧ inA 202 0 (3 : Int) ∧ r32 (μ 202 3) ∧ (((μ 202 3) = 0) → (r32 k ∧ r32 (-1 : Int)) ∧ ((¬ k = (-1 : Int)) → (r32 k ∧ r32 (-1 : Int)) ∧ ((¬ k = (-1 : Int)) → V_X11_town R 180 [(0, kR 201), (2, kI k)] μ) ∧ (¬ (¬ k = (-1 : Int)) → isC 201 11 ∧ inA 202 0 (0 : Int) ∧ inA 202 0 (0 : Int) ∧ V_X11_town R 180 [(0, kR 201), (2, kI k)] (updm μ 202 0 ((μ 202 0) + 1)))) ∧ (¬ (¬ k = (-1 : Int)) → isC 201 11 ∧ inA 202 0 (0 : Int) ∧ (r32 k ∧ r32 (-1 : Int)) ∧ ((¬ k = (-1 : Int)) → V_X11_town R 180 [(0, kR 201), (2, kI (μ 202 0))] μ) ∧ (¬ (¬ k = (-1 : Int)) → isC 201 11 ∧ inA 202 0 (0 : Int) ∧ inA 202 0 (0 : Int) ∧ V_X11_town R 180 [(0, kR 201), (2, kI (μ 202 0))] (updm μ 202 0 ((μ 202 0) + 1))))) ∧ (¬ ((μ 202 3) = 0) → R μ (some (kI (-1))))
  exact ⟨c_201, ⟨isArr.in a_202 (by omega) (by omega), ⟨H.1, fun hc60 => ⟨⟨(H.2.1 hc60).1, by unfold r32; omega⟩, fun hc59 => ⟨⟨((H.2.1 hc60).2.1 hc59).1, by unfold r32; omega⟩, fun hc57 => (((H.2.1 hc60).2.1 hc59).2.1 hc57), fun hc57 => ⟨c_201, ⟨isArr.in a_202 (by omega) (by omega), ⟨isArr.in a_202 (by omega) (by omega), (((H.2.1 hc60).2.1 hc59).2.2 hc57)⟩⟩⟩⟩, fun hc59 => ⟨c_201, ⟨isArr.in a_202 (by omega) (by omega), ⟨⟨((H.2.1 hc60).2.2 hc59).1, by unfold r32; omega⟩, fun hc58 => (((H.2.1 hc60).2.2 hc59).2.1 hc58), fun hc58 => ⟨c_201, ⟨isArr.in a_202 (by omega) (by omega), ⟨isArr.in a_202 (by omega) (by omega), (((H.2.1 hc60).2.2 hc59).2.2 hc58)⟩⟩⟩⟩⟩⟩⟩, fun hc60 => (H.2.2 hc60)⟩⟩⟩
set_option maxRecDepth 20000 in
theorem vc_X11_town_180 {R : Mem → Option AV → Prop} {t : Int} {μ : Mem} (H : V_X11_town R 182 [(0, kR 201), (2, kI t), (3, kI 0)] μ) : V_X11_town R 180 [(0, kR 201), (2, kI t)] μ := by
  refine vm_step2 mt_X11_town ok_X11_town [(4, [0, 1]), (45, [0, 1]), (65, [0, 1]), (72, [0, 1]), (85, [0, 1]), (89, [0, 1]), (107, [0, 1]), (138, [0, 1]), (180, [0, 2]), (182, [0, 2, 3]), (221, [0, 2, 3])] 1000 ?_
  show V_X11_town R 182 [(0, kR 201), (2, kI t), (3, kI 0)] μ
  exact H
set_option maxRecDepth 20000 in
theorem vc_X11_town_182 {R : Mem → Option AV → Prop} {t i : Int} {μ : Mem} (H : r32 i ∧ (((260 : Int) ≤ i) → R μ (some (kI t))) ∧ (¬ ((260 : Int) ≤ i) → r32 i ∧ (((104 : Int) ≤ i) → (0 ≤ ((510 + (260 * t)) + i) ∧ ((510 + (260 * t)) + i) < 5160) ∧ V_X11_town R 221 [(0, kR 201), (2, kI t), (3, kI i)] (updm μ 202 ((510 + (260 * t)) + i) 0)) ∧ (¬ ((104 : Int) ≤ i) → (0 ≤ i ∧ i < 104) ∧ (0 ≤ ((510 + (260 * t)) + i) ∧ ((510 + (260 * t)) + i) < 5160) ∧ V_X11_town R 221 [(0, kR 201), (2, kI t), (3, kI i)] (updm μ 202 ((510 + (260 * t)) + i) (μ 204 i))))) : V_X11_town R 182 [(0, kR 201), (2, kI t), (3, kI i)] μ := by
  refine vm_step2 mt_X11_town ok_X11_town [(4, [0, 1]), (45, [0, 1]), (65, [0, 1]), (72, [0, 1]), (85, [0, 1]), (89, [0, 1]), (107, [0, 1]), (138, [0, 1]), (180, [0, 2]), (182, [0, 2, 3]), (221, [0, 2, 3])] 1000 ?_
  show (r32 i ∧ r32 (260 : Int)) ∧ (((260 : Int) ≤ i) → R μ (some (kI t))) ∧ (¬ ((260 : Int) ≤ i) → isC 201 11 ∧ (r32 i ∧ r32 (104 : Int)) ∧ (((104 : Int) ≤ i) → inA 202 0 ((510 + (260 * t)) + i) ∧ V_X11_town R 221 [(0, kR 201), (2, kI t), (3, kI i)] (updm μ 202 ((510 + (260 * t)) + i) 0)) ∧ (¬ ((104 : Int) ≤ i) → isC 201 11 ∧ inA 204 0 i ∧ inA 202 0 ((510 + (260 * t)) + i) ∧ V_X11_town R 221 [(0, kR 201), (2, kI t), (3, kI i)] (updm μ 202 ((510 + (260 * t)) + i) (μ 204 i))))
  exact ⟨⟨H.1, by unfold r32; omega⟩, fun hc62 => (H.2.1 hc62), fun hc62 => ⟨c_201, ⟨⟨(H.2.2 hc62).1, by unfold r32; omega⟩, fun hc61 => ⟨isArr.in a_202 ((H.2.2 hc62).2.1 hc61).1.1 ((H.2.2 hc62).2.1 hc61).1.2, ((H.2.2 hc62).2.1 hc61).2⟩, fun hc61 => ⟨c_201, ⟨isArr.in a_204 ((H.2.2 hc62).2.2 hc61).1.1 ((H.2.2 hc62).2.2 hc61).1.2, ⟨isArr.in a_202 ((H.2.2 hc62).2.2 hc61).2.1.1 ((H.2.2 hc62).2.2 hc61).2.1.2, ((H.2.2 hc62).2.2 hc61).2.2⟩⟩⟩⟩⟩⟩
set_option maxRecDepth 20000 in
theorem vc_X11_town_221 {R : Mem → Option AV → Prop} {t i : Int} {μ : Mem} (H : V_X11_town R 182 [(0, kR 201), (2, kI t), (3, kI (i + 1))] μ) : V_X11_town R 221 [(0, kR 201), (2, kI t), (3, kI i)] μ := by
  refine vm_step2 mt_X11_town ok_X11_town [(4, [0, 1]), (45, [0, 1]), (65, [0, 1]), (72, [0, 1]), (85, [0, 1]), (89, [0, 1]), (107, [0, 1]), (138, [0, 1]), (180, [0, 2]), (182, [0, 2, 3]), (221, [0, 2, 3])] 1000 ?_
  show V_X11_town R 182 [(0, kR 201), (2, kI t), (3, kI (i + 1))] μ
  exact H
/-- where the loop over the lines stands: at token p, f steps of the grammar left -/
def LpM (tx : Int → Int) (n : Int) (m1 : Mem) (f : Nat) (p : Int) (m : Mem) : Prop := PBm m ∧ PFm m1 m ∧ RBm m ∧ (0 ≤ m 201 9 ∧ m 201 9 ≤ p) ∧ m 204 1 ≤ p ∧ (3 ≤ p ∧ p ≤ 600) ∧
  ((m 201 8 = 1 ∧ 0 ≤ gramN (KT tx n) 502 0 ∧ flM m = (1, stT tx n (gramN (KT tx n) 502 0))) ∨
   (m 201 8 = 0 ∧ AT tx n p m ∧ 504 ≤ p + f ∧ gramN (KT tx n) 502 0 = gramN (KT tx n) f p ∧
     (((flM m).1 ≠ 0 ∧ keepB (stT tx n p) (flM m) ∧ (gramN (KT tx n) 502 0 < 0 → (textV (KT tx n) (stT tx n) (VT tx n) n).1 = flM m)) ∨
      (flM m = (0, -1) ∧ m 201 9 ≤ 40 ∧ ∃ v : TV, RdOk v ∧ ShV v ∧ RVm v m ∧ ¬ (VT tx n 1 < 2 ∨ 8 < VT tx n 1) ∧ linesV (KT tx n) (stT tx n) (VT tx n) 502 3 0 (begV (VT tx n 1)) = linesV (KT tx n) (stT tx n) (VT tx n) (f + 1) p (m 201 9) v))))
/-- what the text tells, and what stands in the memory then -/
def EndM (tx : Int → Int) (n : Int) (m1 m : Mem) : Prop := PBm m ∧ PFm m1 m ∧ (((flM m).1 ≠ 0 ∧ (textV (KT tx n) (stT tx n) (VT tx n) n).1 = flM m) ∨ (flM m = (0, -1) ∧ (textV (KT tx n) (stT tx n) (VT tx n) n).1.1 = 0 ∧ RVm (textV (KT tx n) (stT tx n) (VT tx n) n).2 m ∧ ShV (textV (KT tx n) (stT tx n) (VT tx n) n).2))
theorem text_g {K S V : Int → Int} {L : Int} (h : gramN K 502 0 < 0) : textV K S V L = if V 1 < 2 ∨ 8 < V 1 then ((2, S 1), begV 2) else if (linesV K S V 502 3 0 (begV (V 1))).1.1 ≠ 0 then linesV K S V 502 3 0 (begV (V 1)) else endV (linesV K S V 502 3 0 (begV (V 1))).2 L := by
  unfold textV
  rw [if_neg (by omega)]
theorem gram_s {K : Int → Int} {f : Nat} {p : Int} : gramN K (f + 1) p = if 0 < p ∧ K p = 0 then -1 else if 0 ≤ lineE K p then lineE K p else gramN K f (p + 2 + nbK (K p)) := rfl
theorem lines_s {K S V : Int → Int} {f : Nat} {p ln : Int} {v : TV} : linesV K S V (f + 1) p ln v = if K p = 0 then ((0, 0), v) else if 40 ≤ ln then ((3, S p), v) else if (lineV K S V p v).1.1 ≠ 0 then lineV K S V p v else linesV K S V f (p + 2 + nbK (K p)) (ln + 1) (lineV K S V p v).2 := rfl
/-- the first wrong token of a line -/
theorem lineE_g {K : Int → Int} {p g : Int} (h1 : ¬ ((p = 0 ∧ K p ≠ 3) ∨ (p ≠ 0 ∧ K p = 3) ∨ nbK (K p) = 0)) (g0 : 0 ≤ g) (g1 : g ≤ nbK (K p)) (hg : K (p + 1 + g) ≠ (if g < nbK (K p) then 2 else 1)) (hl : ∀ j : Int, 0 ≤ j → j < g → K (p + 1 + j) = 2) : lineE K p = p + 1 + g := by
  have e : frst (lineQ K p) (nbK (K p) + 1) = g := by
    refine frst_at g0 (by omega) ?_ (fun j j0 j1 => ?_)
    · show (!decide (K (p + 1 + g) = (if g < nbK (K p) then 2 else 1))) = true
      rw [decide_eq_false hg]
      rfl
    · show (!decide (K (p + 1 + j) = (if j < nbK (K p) then 2 else 1))) = false
      rw [if_pos (show j < nbK (K p) by omega), decide_eq_true (hl j j0 j1)]
      rfl
  unfold lineE
  rw [if_neg h1, e, if_neg (by omega)]
theorem lineE_ok {K : Int → Int} {p : Int} (h1 : ¬ ((p = 0 ∧ K p ≠ 3) ∨ (p ≠ 0 ∧ K p = 3) ∨ nbK (K p) = 0)) (hl : ∀ j : Int, 0 ≤ j → j < nbK (K p) → K (p + 1 + j) = 2) (hs : K (p + 1 + nbK (K p)) = 1) : lineE K p = -1 := by
  have nb := nbK_bd (k := K p)
  have e : frst (lineQ K p) (nbK (K p) + 1) = -1 := by
    refine frst_none (by omega) (fun j j0 j1 => ?_)
    show (!decide (K (p + 1 + j) = (if j < nbK (K p) then 2 else 1))) = false
    by_cases c : j < nbK (K p)
    · rw [if_pos c, decide_eq_true (hl j j0 c)]; rfl
    · have : j = nbK (K p) := by omega
      rw [if_neg c, this, decide_eq_true hs]; rfl
  unfold lineE
  rw [if_neg h1, e, if_pos (by omega)]
theorem nb_4 {k : Int} (h : 4 ≤ k ∧ k ≤ 9) : 1 ≤ nbK k := by
  rcases (by omega : k = 4 ∨ k = 5 ∨ k = 6 ∨ k = 7 ∨ k = 8 ∨ k = 9) with e | e | e | e | e | e <;> rw [e] <;> decide
theorem nb_no {k : Int} (h0 : 0 ≤ k) (h : ¬ (3 ≤ k ∧ k ≤ 9)) : nbK k = 0 := by
  unfold nbK
  rw [if_neg (by omega), if_neg (by omega), if_neg (by omega), if_neg (by omega), if_neg (by omega), if_neg (by omega), if_neg (by omega)]
/-- the lines -/
theorem loop_town {tx : Int → Int} {n k : Int} {m1 : Mem} {R : Mem → Option AV → Prop} (hn : 0 ≤ n ∧ n ≤ 500) (hE : ∀ m : Mem, EndM tx n m1 m → V_X11_town R 138 [(0, kR 201), (1, kI k)] m) : ∀ (f : Nat) (p : Int) (m : Mem), LpM tx n m1 f p m → V_X11_town R 89 [(0, kR 201), (1, kI k)] m := by
  have r3 : ∀ m : Mem, PBm m → r32 (m 202 3) := fun m hm => rr (by have := hm.2.1; omega)
  intro f
  induction f using Nat.strongRecOn with
  | _ f ih =>
    intro p m hL
    obtain ⟨pb, pf, rb, h9, h1, hp, hc⟩ := hL
    have tk4 := pb.2.2.2.1
    rcases hc with ⟨w, hg, hf⟩ | ⟨w, hat, hpf, hgr, hc⟩
    · -- no text
      have e : (textV (KT tx n) (stT tx n) (VT tx n) n).1 = flM m := by
        unfold textV
        rw [if_pos hg, hf]
      have f0 : m 202 3 = 1 := congrArg Prod.fst hf
      have E : EndM tx n m1 m := ⟨pb, pf, Or.inl ⟨by rw [hf]; show (1 : Int) ≠ 0; omega, e⟩⟩
      exact vc_X11_town_89 ⟨rr (by omega), fun _ => ⟨r3 m pb, fun _ => hE m E, fun q => absurd (by omega) q⟩, fun q => absurd (by omega) q⟩
    · have tk := at_tok hat
      have kb : 0 ≤ KT tx n p ∧ KT tx n p ≤ 10 := kX_bd (tx := tx) (n := n) (x := posT tx n p)
      refine vc_X11_town_89 ⟨rr (by omega), fun q => absurd w q, fun _ => ⟨rr (by omega), fun t0 => ?_, fun t0 => ?_⟩⟩
      · -- the end
        have k0 := tk.1.mp t0
        have g0 : gramN (KT tx n) 502 0 < 0 := by
          rw [hgr]
          cases f with
          | zero => show (-1 : Int) < 0; omega
          | succ f => rw [gram_s (f := f) (p := p), if_pos ⟨by omega, k0⟩]; omega
        rcases hc with ⟨hz, hk, ht⟩ | ⟨hz, h40, v, hv, hs, hr, hV, hl⟩
        · refine ⟨r3 m pb, fun _ => hE m ⟨pb, pf, Or.inl ⟨hz, ht g0⟩⟩, fun q => absurd hz q⟩
        · have f0 : m 202 3 = 0 := congrArg Prod.fst hz
          rw [lines_s (f := f) (p := p), if_pos k0] at hl
          have te := text_g (S := stT tx n) (V := VT tx n) (L := n) g0
          rw [if_neg hV, hl, if_neg (fun q => q rfl)] at te
          replace te : textV (KT tx n) (stT tx n) (VT tx n) n = endV v n := te
          have Sn : stT tx n p = n := by
            have b := stT_bd (tx := tx) (n := n) (i := p) hn.1 (by omega)
            have : ¬ stT tx n p < n := fun q => by
              unfold KT at k0
              rw [if_pos q] at k0
              have := kindT_bd (tx := tx) (p := stT tx n p) (q := endT tx (stT tx n p) n)
              omega
            omega
          have P : P_X11_wrongWhole 201 m := ⟨rfl, v, hv, hr⟩
          have ev : ∀ r : Int, Q_X11_wrongWhole 201 m r → r = (endV v n).1.1 := fun r q => q v hv hr n
          have eb : 0 ≤ (endV v n).1.1 ∧ (endV v n).1.1 ≤ 6 ∧ ((endV v n).1.1 ≠ 0 → (endV v n).1.2 = n) ∧ ((endV v n).1.1 = 0 → (endV v n).2 = v) := by
            unfold endV
            split
            · exact ⟨by show (0 : Int) ≤ 4; omega, by show (4 : Int) ≤ 6; omega, fun _ => rfl, fun _ => rfl⟩
            · split
              · exact ⟨by show (0 : Int) ≤ 5; omega, by show (5 : Int) ≤ 6; omega, fun _ => rfl, fun _ => rfl⟩
              · split
                · exact ⟨by show (0 : Int) ≤ 6; omega, by show (6 : Int) ≤ 6; omega, fun _ => rfl, fun _ => rfl⟩
                · exact ⟨by show (0 : Int) ≤ 0; omega, by show (0 : Int) ≤ 6; omega, fun q => absurd rfl q, fun _ => rfl⟩
          refine ⟨r3 m pb, fun q => absurd f0 q, fun _ => ⟨P, fun r q => ?_⟩⟩
          have er := ev r q
          refine ⟨rr (by omega), fun c => hE m ⟨pb, pf, Or.inr ⟨hz, ?_, ?_, ?_⟩⟩, fun c => ⟨P, fun r2 q2 => ?_⟩⟩
          · rw [te]; omega
          · rw [te, eb.2.2.2 (by omega)]; exact hr
          · rw [te, eb.2.2.2 (by omega)]; exact hs
          · have er2 := ev r2 q2
            have wh := at_where hat
            have s5 := pb.2.2.2.2.2.2.1
            refine ⟨⟨rfl, pb.1, r3 m pb, rr (by have := pb.2.2.1; omega), rr (by omega), rr (by omega)⟩, fun m2 q3 => hE m2 ?_⟩
            have ap := also_PB pb (show 0 ≤ r2 ∧ r2 ≤ 10 by omega) s5 q3
            have fl := also_fl (μ := m) (k := r2) (p := m 201 4) w
            rw [← q3, also_new (by rw [hz]), wh, Sn] at fl
            refine ⟨ap.1, pf.trans ap.2.1, Or.inl ⟨by rw [fl]; show r2 ≠ 0; omega, ?_⟩⟩
            rw [te, fl, er2]
            exact Prod.ext rfl (eb.2.2.1 (by omega))
      · -- a line
        have k0 : KT tx n p ≠ 0 := fun q => t0 (tk.1.mpr q)
        have plt := KT_lt (tx := tx) hn.1 p (by omega) (kt_lt k0)
        have pn := kt_lt k0
        cases f with
        | zero => omega
        | succ f =>
          refine ⟨⟨rfl, pb, rb, by omega, by omega, tx, n, p, by omega, hat⟩, fun m' q => vc_X11_town_107 ?_⟩
          obtain ⟨q1, q2, q3, q4, q5⟩ := q
          have hT := q5 w tx n p (by omega) hat
          have rb' : RBm m' := ⟨by rw [q4.1]; exact rb.1, by omega, q4.2.2⟩
          rw [gram_s (f := f) (p := p), if_neg (fun z => k0 z.2)] at hgr
          rcases Classical.em (¬ (4 ≤ KT tx n p ∧ KT tx n p ≤ 9)) with k4 | k4
          · -- no line begins so
            obtain ⟨w', f'⟩ := hT.1 k4
            have le : lineE (KT tx n) p = p := by
              unfold lineE
              rw [if_pos]
              by_cases k3 : KT tx n p = 3
              · exact Or.inr (Or.inl ⟨by omega, k3⟩)
              · exact Or.inr (Or.inr (nb_no kb.1 (by omega)))
            rw [le, if_pos (by omega)] at hgr
            exact ih f (by omega) (p + 1) m' ⟨q1, pf.trans q2, rb', by omega, by omega, by omega, Or.inl ⟨w', by rw [hgr]; omega, by rw [hgr]; exact f'⟩⟩
          replace k4 := Classical.not_not.mp k4
          have nb := nbK_bd (k := KT tx n p)
          have nb4 := nb_4 k4
          have c1 : ¬ ((p = 0 ∧ KT tx n p ≠ 3) ∨ (p ≠ 0 ∧ KT tx n p = 3) ∨ nbK (KT tx n p) = 0) := by omega
          rcases hT.2 k4 with ⟨g, g0, gk, gl, w', f'⟩ | ⟨hall, hs1, w', hat', h9', hkeep, htell⟩
          · have le := lineE_g c1 g0.1 g0.2 gk gl
            rw [le, if_pos (by omega)] at hgr
            exact ih f (by omega) (p + 1) m' ⟨q1, pf.trans q2, rb', by omega, by omega, by omega, Or.inl ⟨w', by rw [hgr]; omega, by rw [hgr]; exact f'⟩⟩
          · have le := lineE_ok c1 hall hs1
            rw [le, if_neg (by omega)] at hgr
            -- the tokens stand in their order
            have up : ∀ j : Int, 0 ≤ j → j ≤ nbK (KT tx n p) + 1 → stT tx n (p + j) < stT tx n (p + j + 1) := fun j j0 j1 => by
              refine stT_lt hn.1 (by omega) (kt_lt ?_)
              by_cases e : j = 0
              · rw [e, Int.add_zero]; exact k0
              · by_cases e2 : j = nbK (KT tx n p) + 1
                · rw [e2, show p + (nbK (KT tx n p) + 1) = p + 1 + nbK (KT tx n p) by omega, hs1]; omega
                · have := hall (j - 1) (by omega) (by omega)
                  rw [show p + 1 + (j - 1) = p + j by omega] at this
                  omega
            have mono : ∀ j : Int, 0 ≤ j → j ≤ nbK (KT tx n p) + 1 → stT tx n (p + j) < stT tx n (p + 2 + nbK (KT tx n p)) := by
              have := dn_ind (P := fun j => 0 ≤ j → stT tx n (p + (nbK (KT tx n p) + 1 - j)) < stT tx n (p + 2 + nbK (KT tx n p))) (lo := 0) (hi := nbK (KT tx n p) + 1) (fun j j0 j1 h _ => by
                have h := h (by omega)
                have u := up (nbK (KT tx n p) + 1 - j) (by omega) (by omega)
                rw [show p + (nbK (KT tx n p) + 1 - j) + 1 = p + (nbK (KT tx n p) + 1 - (j - 1)) by omega] at u
                omega) (fun _ => by
                have u := up (nbK (KT tx n p) + 1) (by omega) (by omega)
                rw [show p + (nbK (KT tx n p) + 1) + 1 = p + 2 + nbK (KT tx n p) by omega] at u
                rw [show nbK (KT tx n p) + 1 - 0 = nbK (KT tx n p) + 1 by omega]
                exact u)
              intro j j0 j1
              have := this (nbK (KT tx n p) + 1 - j) (by omega) (by omega) (by omega)
              rw [show p + (nbK (KT tx n p) + 1 - (nbK (KT tx n p) + 1 - j)) = p + j by omega] at this
              exact this
            have lt0 := mono 0 (by omega) (by omega)
            rw [Int.add_zero] at lt0
            have base : PBm m' ∧ PFm m1 m' ∧ RBm m' ∧ (0 ≤ m' 201 9 ∧ m' 201 9 ≤ p + 2 + nbK (KT tx n p)) ∧ m' 204 1 ≤ p + 2 + nbK (KT tx n p) ∧ (3 ≤ p + 2 + nbK (KT tx n p) ∧ p + 2 + nbK (KT tx n p) ≤ 600) := ⟨q1, pf.trans q2, rb', by omega, by omega, by omega⟩
            refine ih f (by omega) (p + 2 + nbK (KT tx n p)) m' ⟨base.1, base.2.1, base.2.2.1, base.2.2.2.1, base.2.2.2.2.1, base.2.2.2.2.2, Or.inr ⟨w', hat', by omega, hgr, ?_⟩⟩
            rcases hc with ⟨hz, hk, ht⟩ | ⟨hz, h40, v, hv, hs, hr, hV, hl⟩
            · have e := hkeep hk
              refine Or.inl ⟨by rw [e]; exact hz, by rw [e]; exact ⟨hk.1, Or.inl (by have := hk.2; omega)⟩, by rw [e]; exact ht⟩
            · have hz0 : (flM m).1 = 0 := by rw [hz]
              obtain ⟨t1, t2⟩ := htell hz0
              rw [lines_s (f := f + 1) (p := p), if_neg k0] at hl
              by_cases l40 : m 201 9 = 40
              · have e := t1 l40
                rw [if_pos (by omega)] at hl
                refine Or.inl ⟨by rw [e]; show (3 : Int) ≠ 0; omega, by rw [e]; exact ⟨by show (3 : Int) ≠ 0; omega, Or.inl lt0⟩, fun g0 => ?_⟩
                rw [text_g g0, if_neg hV, hl, if_pos (show (3 : Int) ≠ 0 by omega), e]
              · rw [if_neg (by omega)] at hl
                obtain ⟨u1, u2⟩ := t2 l40 v hv hr
                by_cases c : (lineV (KT tx n) (stT tx n) (VT tx n) p v).1.1 = 0
                · rw [if_neg (fun z => z c), ← h9'] at hl
                  obtain ⟨x1, x2⟩ := u2 c
                  exact Or.inr ⟨by rw [x1, hz], by omega, _, RdOk_line hv c, Sh_line hv hs c, x2, hV, hl⟩
                · rw [if_pos c] at hl
                  have e := u1 c
                  refine Or.inl ⟨by rw [e]; exact c, by rw [e]; exact ⟨c, Or.inl (line_place k4 (fun j j0 j1 => mono j j0 (by omega)) c)⟩, fun g0 => ?_⟩
                  rw [text_g g0, if_neg hV, hl, if_pos c, e]
theorem body_X11_town {o k : Int} {μ : Mem} {R : Mem → Option AV → Prop} (h : P_X11_town o k μ) (hR : ∀ (μ' : Mem) (r : Int), Q_X11_town o k μ μ' r → R μ' (some (kI r))) : V_X11_town R 0 [(0, kR o), (1, kI k)] μ := by
  obtain ⟨rfl, hs, rk⟩ := h
  have hl := hs.1.1
  have hbytes := hs.1.2.2.2.2.1
  have ht := hs.1.2.1
  rw [mn_0] at hl
  rw [mn_3] at ht
  refine vc_X11_town_0 ⟨rfl, fun m1 q1 => ?_⟩
  obtain ⟨⟨a2, a3, a8, a9, af⟩, ⟨b2, b3, b4, bf⟩, c4, zf⟩ := q1
  obtain ⟨n, en⟩ : ∃ n : Int, n = μ 202 2 := ⟨_, rfl⟩
  rw [← en] at a2 hl
  have tb : TBm m1 := by
    refine ⟨by rw [a2]; exact hl, fun p p0 p1 => ?_⟩
    rw [a2] at p1
    rw [bf (10 + p) (by omega) (by omega) (by omega), ← mn_tape μ p0 (by omega)]
    exact hbytes p p0 (by rw [mn_0, ← en]; exact p1)
  obtain ⟨tx, etx⟩ : ∃ tx : Int → Int, tx = TX m1 := ⟨_, rfl⟩
  have eby : tx = byS (stM μ).1.1 := by
    rw [etx]
    unfold TX
    rw [a2]
    have : clip n (fun j => m1 202 (10 + j)) = (stM μ).1.1 := by
      show _ = clip (μ 202 (0 + 2)) (fun j => μ 202 (0 + 10 + j))
      have e2 : (0 : Int) + 2 = 2 := rfl
      rw [e2, ← en]
      exact clip_ext fun j j0 j1 => by rw [bf (10 + j) (by omega) (by omega) (by omega)]; rfl
    rw [this]
  have etell : tellV (stM μ) = textV (KT tx n) (stT tx n) (VT tx n) n := by
    unfold tellV readV
    rw [← eby, mn_0, ← en]
  have fl1 : flM m1 = (0, -1) := by unfold flM; rw [b3, b4]
  -- what the state is once the text is gone
  have state : ∀ m : Mem, (∀ j : Int, j ≠ 2 → j ≠ 3 → j ≠ 4 → m 202 j = μ 202 j) → m 203 = μ 203 → m 202 2 = 0 → stM m = (((fun _ => 0), clrN (stM μ) (m 202 3) (m 202 4), (stM μ).1.2.2), (stM μ).2) := fun m hf h3 h2 => by
    rw [stM_head (hf 0 (by omega) (by omega) (by omega)) (fun j j0 => hf j (by omega) (by omega) (by omega)) h3, h2]
    refine Prod.ext (Prod.ext ?_ (Prod.ext ?_ rfl)) rfl
    · funext j
      show clip 0 (fun j => m 202 (10 + j)) j = 0
      unfold clip
      rw [if_neg (by omega)]
    · funext j
      show clip 9 (fun k => m 202 (nmM k)) j = upd1 (upd1 (upd1 (clip 9 (fun k => μ 202 (0 + nmM k))) 0 0) 1 (m 202 3)) 2 (m 202 4) j
      have e0 : nmM 0 = 2 := rfl
      have e1 : nmM 1 = 3 := rfl
      have e2 : nmM 2 = 4 := rfl
      by_cases j2 : j = 2
      · rw [j2, r1_eq, clip_in (by omega) (by omega), e2]
      rw [r1_ne j2]
      by_cases j1 : j = 1
      · rw [j1, r1_eq, clip_in (by omega) (by omega), e1]
      rw [r1_ne j1]
      by_cases j0 : j = 0
      · rw [j0, r1_eq, clip_in (by omega) (by omega), e0, h2]
      rw [r1_ne j0]
      unfold clip
      by_cases q : 0 ≤ j ∧ j < 9
      · rw [if_pos q, if_pos q]
        show m 202 (nmM j) = μ 202 (0 + nmM j)
        have : nmM j ≠ 2 ∧ nmM j ≠ 3 ∧ nmM j ≠ 4 := by
          unfold nmM
          split
          · omega
          · split <;> omega
        rw [hf _ this.1 this.2.1 this.2.2, Int.zero_add]
      · rw [if_neg q, if_neg q]
  have low : ∀ m : Mem, PFm m1 m → ∀ z : Int, z < 201 → m z = μ z := fun m pf z hz => by rw [pf.2.2 z (by omega) (by omega) (by omega), zf z (by omega) (by omega) (by omega)]
  -- the end
  have fin : ((k = -1 ∧ μ 202 0 < 3) ∨ (0 ≤ k ∧ k < μ 202 0)) → ∀ m : Mem, EndM tx n m1 m → V_X11_town R 138 [(0, kR 201), (1, kI k)] m := by
    intro room m hE
    obtain ⟨pb, pf, hc⟩ := hE
    have hf : ∀ j : Int, j ≠ 2 → j ≠ 3 → j ≠ 4 → m 202 j = μ 202 j := fun j x y z => by rw [pf.2.1 j y z, bf j x y z]
    have h2 : m 202 2 = 0 := by rw [pf.2.1 2 (by omega) (by omega), b2]
    have h3 : m 203 = μ 203 := by rw [pf.2.2 203 (by omega) (by omega) (by omega), zf 203 (by omega) (by omega) (by omega)]
    have h0 : m 202 0 = μ 202 0 := hf 0 (by omega) (by omega) (by omega)
    have rm : ¬ ¬ ((k = -1 ∧ (stM μ).1.2.1 3 < 3) ∨ (0 ≤ k ∧ k < (stM μ).1.2.1 3)) := by rw [mn_3]; exact fun q => q room
    rcases hc with ⟨fz, ft⟩ | ⟨fz, ft, hr, hsh⟩
    · have e3 : m 202 3 ≠ 0 := fz
      have r3' : r32 (m 202 3) := rr (by have := pb.2.1; omega)
      refine vc_X11_town_138 ⟨r3', fun q => absurd q e3, fun _ => hR m (-1) ?_⟩
      unfold Q_X11_town townS
      rw [if_neg rm, etell, ft, if_pos fz]
      exact ⟨state m hf h3 h2, rfl, fun z hz => low m pf z hz⟩
    · have e3 : m 202 3 = 0 := congrArg Prod.fst fz
      have e4 : m 202 4 = -1 := congrArg Prod.snd fz
      -- the town is written
      have write : ∀ (t : Int) (m2 : Mem), (t = if k = -1 then μ 202 0 else k) → m2 202 0 = (if k = -1 then μ 202 0 + 1 else μ 202 0) → (∀ j : Int, j ≠ 0 → m2 202 j = m 202 j) → (∀ z : Int, z ≠ 202 → m2 z = m z) → V_X11_town R 180 [(0, kR 201), (2, kI t)] m2 := by
        intro t m2 et e0 ef ez
        have tb3 : 0 ≤ t ∧ t < 3 := by
          rw [et]
          split <;> omega
        have key := up_ind (P := fun i => ∀ m' : Mem, (∀ z : Int, z ≠ 202 → m' z = m z) → (∀ j : Int, (j < 510 + 260 * t ∨ 510 + 260 * t + i ≤ j) → m' 202 j = m2 202 j) → (∀ j : Int, 0 ≤ j → j < i → m' 202 (510 + 260 * t + j) = if j < 104 then m 204 j else 0) → V_X11_town R 182 [(0, kR 201), (2, kI t), (3, kI i)] m') (lo := 0) (hi := 260) ?_ ?_
        · exact vc_X11_town_180 (key 0 (by omega) (by omega) m2 ez (fun _ _ => rfl) (fun j x y => absurd x (by omega)))
        · intro i i0 i1 ih m' hz' hf' hc'
          have nx : ∀ w : Int, w = (if i < 104 then m 204 i else 0) → V_X11_town R 221 [(0, kR 201), (2, kI t), (3, kI i)] (updm m' 202 (510 + 260 * t + i) w) := fun w hw => by
            refine vc_X11_town_221 (ih _ (fun z hz => by rw [ru_ne hz]; exact hz' z hz) (fun j hj => by rw [ru_eq, r1_ne (by omega)]; exact hf' j (by omega)) (fun j x y => ?_))
            rw [ru_eq]
            by_cases e : j = i
            · rw [e, r1_eq, hw]
            · rw [r1_ne (by omega)]; exact hc' j x (by omega)
          refine vc_X11_town_182 ⟨rr (by omega), fun q => absurd q (by omega), fun _ => ⟨rr (by omega), fun q => ⟨by omega, nx 0 (if_neg (by omega)).symm⟩, fun q => ⟨by omega, by omega, nx _ ?_⟩⟩⟩
          rw [if_pos (by omega), hz' 204 (by omega)]
        · intro m' hz' hf' hc'
          refine vc_X11_town_182 ⟨rr (by omega), fun _ => hR m' t ?_, fun q => absurd (Int.le_refl _) q⟩
          have tm : tmF (m' 202) (510 + 260 * t) = (textV (KT tx n) (stT tx n) (VT tx n) n).2 := tm_read (fun i x y => by rw [hc' i x (by omega), if_pos y]) (fun i x y => by rw [hc' i (by omega) y, if_neg (by omega)]) hr hsh
          have old : ∀ j : Int, j ≠ 0 → j ≠ 2 → j ≠ 3 → j ≠ 4 → (j < 510 + 260 * t ∨ 510 + 260 * t + 260 ≤ j) → m' 202 j = μ 202 j := fun j x0 x2 x3 x4 hj => by rw [hf' j hj, ef j x0, hf j x2 x3 x4]
          have q2 : m' 202 2 = 0 := by rw [hf' 2 (by omega), ef 2 (by omega), h2]
          have q3 : m' 202 3 = 0 := by rw [hf' 3 (by omega), ef 3 (by omega), e3]
          have q4 : m' 202 4 = -1 := by rw [hf' 4 (by omega), ef 4 (by omega), e4]
          have q0 : m' 202 0 = (if k = -1 then μ 202 0 + 1 else μ 202 0) := by rw [hf' 0 (by omega), e0]
          unfold Q_X11_town townS
          rw [if_neg rm, etell, if_neg (fun z => z ft)]
          refine ⟨?_, ?_, fun z hz => by rw [hz' z (by omega)]; exact low m pf z hz⟩
          · refine Prod.ext (Prod.ext ?_ (Prod.ext ?_ ?_)) (imgs_up (fun j j0 => old j (by omega) (by omega) (by omega) (by omega) (by omega)) (by rw [hz' 203 (by omega), h3]))
            · show clip (m' 202 (0 + 2)) (fun j => m' 202 (0 + 10 + j)) = fun _ => 0
              have e2 : (0 : Int) + 2 = 2 := rfl
              rw [e2, q2]
              funext j
              unfold clip
              rw [if_neg (by omega)]
            · funext j
              show clip 9 (fun k => m' 202 (0 + nmM k)) j = upd1 (upd1 (upd1 (upd1 (clip 9 (fun k => μ 202 (0 + nmM k))) 0 0) 1 0) 2 (-1)) 3 (if k = -1 then (stM μ).1.2.1 3 + 1 else (stM μ).1.2.1 3) j
              rw [mn_3]
              have g0 : nmM 0 = 2 := rfl
              have g1 : nmM 1 = 3 := rfl
              have g2 : nmM 2 = 4 := rfl
              have g3 : nmM 3 = 0 := rfl
              by_cases j3 : j = 3
              · rw [j3, r1_eq, clip_in (by omega) (by omega), g3, Int.zero_add, q0]
              rw [r1_ne j3]
              by_cases j2 : j = 2
              · rw [j2, r1_eq, clip_in (by omega) (by omega), g2, Int.zero_add, q4]
              rw [r1_ne j2]
              by_cases j1 : j = 1
              · rw [j1, r1_eq, clip_in (by omega) (by omega), g1, Int.zero_add, q3]
              rw [r1_ne j1]
              by_cases j0 : j = 0
              · rw [j0, r1_eq, clip_in (by omega) (by omega), g0, Int.zero_add, q2]
              rw [r1_ne j0]
              unfold clip
              by_cases q : 0 ≤ j ∧ j < 9
              · rw [if_pos q, if_pos q]
                show m' 202 (0 + nmM j) = μ 202 (0 + nmM j)
                have : nmM j ≠ 0 ∧ nmM j ≠ 2 ∧ nmM j ≠ 3 ∧ nmM j ≠ 4 ∧ nmM j < 9 := by
                  unfold nmM
                  split
                  · omega
                  · split <;> omega
                rw [old _ (by omega) (by omega) (by omega) (by omega) (by omega)]
              · rw [if_neg q, if_neg q]
            · funext i
              show (if 0 ≤ i ∧ i < m' 202 0 then tmF (m' 202) (0 + 510 + 260 * i) else tv0) = if i = (if k = -1 then (stM μ).1.2.1 3 else k) then (textV (KT tx n) (stT tx n) (VT tx n) n).2 else (stM μ).1.2.2 i
              rw [mn_3, ← et]
              by_cases e : i = t
              · rw [if_pos e, if_pos (by rw [e, q0, et]; split <;> omega), e, ← tm]
                rfl
              · rw [if_neg e]
                show _ = if 0 ≤ i ∧ i < μ 202 0 then tmF (μ 202) (0 + 510 + 260 * i) else tv0
                by_cases c : 0 ≤ i ∧ i < μ 202 0
                · rw [if_pos c, if_pos (by rw [q0]; split <;> omega)]
                  have okt : TVok (tmF (μ 202) (510 + 260 * i)) := by
                    have := (hs.1.2.2.2.2.2 i c.1 (by rw [mn_3]; exact c.2)).1
                    rw [mn_t μ c] at this
                    exact this
                  exact tmF_frame okt fun j x y => old j (by omega) (by omega) (by omega) (by omega) (by omega)
                · rw [if_neg c, if_neg (fun q => by
                    rw [q0] at q
                    by_cases kk : k = -1
                    · rw [if_pos kk] at q et; omega
                    · rw [if_neg kk] at q; omega)]
          · show t = if k = -1 then (stM μ).1.2.1 3 else k
            rw [mn_3]
            exact et
      have up1 : ∀ (t : Int), k = -1 → t = μ 202 0 → V_X11_town R 180 [(0, kR 201), (2, kI t)] (updm m 202 0 (m 202 0 + 1)) := fun t kk e => write t _ (by rw [if_pos kk]; exact e) (by rw [ru_eq, r1_eq, if_pos kk, h0]) (fun j hj => by rw [ru_eq, r1_ne hj]) (fun z hz => ru_ne hz)
      refine vc_X11_town_138 ⟨rr (by omega), fun _ => ⟨rk, fun kk => ⟨rk, fun _ => write k m (by rw [if_neg kk]) (by rw [if_neg kk, h0]) (fun _ _ => rfl) (fun _ _ => rfl), fun q => absurd kk q⟩, fun kk => ⟨rk, fun q => absurd q kk, fun _ => up1 _ (Classical.not_not.mp kk) h0⟩⟩, fun q => absurd e3 q⟩
  have loop := fun room => loop_town (tx := tx) (n := n) (k := k) (m1 := m1) (R := R) hl (fin room)
  have adv : ∀ m2 : Mem, Q_X11_advance 201 m1 m2 → PBm m2 ∧ PFm m1 m2 ∧ AT tx n 0 m2 ∧ flM m2 = (0, -1) ∧ m2 201 8 = 0 ∧ m2 201 9 = 0 ∧ m2 204 = m1 204 := fun m2 q => by
    obtain ⟨q1, q2, q3⟩ := q
    have u : ∀ f : Int, f ≠ 4 → f ≠ 5 → updm (updm m1 201 5 0) 201 4 0 201 f = m1 201 f := fun f x y => by rw [ru_eq, r1_ne x, ru_eq, r1_ne y]
    have u2 : updm (updm m1 201 5 0) 201 4 0 202 = m1 202 := by rw [ru_ne (by omega), ru_ne (by omega)]
    have tf := TX_frame (m := updm (updm m1 201 5 0) 201 4 0) (μ := m1) (u 2 (by omega) (by omega)) (fun p _ _ => by rw [u2]) tb
    have pb : PBm (updm (updm m1 201 5 0) 201 4 0) := ⟨Or.inl (by rw [u 8 (by omega) (by omega)]; exact a8), by rw [u2]; omega, by rw [u2]; omega, by rw [ru_eq, r1_ne (by omega), ru_eq, r1_eq]; omega, tf.2, by rw [u 3 (by omega) (by omega), u 2 (by omega) (by omega)]; omega, by rw [ru_eq, r1_eq]; omega, fun z => by
      rw [ru_eq, r1_ne (by omega), ru_eq, r1_eq] at z
      omega⟩
    have ap := adv_PB (m := m2) pb (by rw [tf.1, u 2 (by omega) (by omega), u 3 (by omega) (by omega)]; exact q1) (fun f hf => by rw [u f (by omega) (by omega)]; exact q2 f hf) (fun z hz => by rw [ru_ne hz, ru_ne hz]; exact q3 z hz)
    have t2 := TX_frame (m := m2) (μ := m1) (q2 2 (by omega)) (fun p _ _ => by rw [q3 202 (by omega)]) tb
    refine ⟨ap.1, ⟨fun f hf => q2 f (by omega), fun j _ _ => by rw [q3 202 (by omega)], fun z x _ _ => q3 z x⟩, ⟨by rw [t2.1, etx], by rw [q2 2 (by omega), a2], ?_⟩, ?_, by rw [q2 8 (by omega), a8], by rw [q2 9 (by omega), a9], q3 204 (by omega)⟩
    · rw [← etx, a2, a3] at q1
      exact q1
    · unfold flM
      rw [q3 202 (by omega), b3, b4]
  have go72 : ((k = -1 ∧ μ 202 0 < 3) ∨ (0 ≤ k ∧ k < μ 202 0)) → ∀ m3 : Mem, PBm m3 → PFm m1 m3 → m3 201 9 = 0 → m3 204 = m1 204 → ((m3 201 8 = 1 ∧ KT tx n 0 ≠ 3 ∧ flM m3 = (1, stT tx n 0)) ∨ (m3 201 8 = 0 ∧ KT tx n 0 = 3 ∧ flM m3 = (0, -1) ∧ AT tx n 1 m3)) → V_X11_town R 72 [(0, kR 201), (1, kI k)] m3 := by
    intro room m3 pb3 pf3 l3 r3 hc
    refine vc_X11_town_72 ⟨⟨rfl, pb3, rr (by omega), rr (by omega)⟩, fun m4 r q => ?_⟩
    have nr := (num_r q (by omega)).1
    have ns := fun (w : m3 201 8 = 0) (a : AT tx n 1 m3) => num_step q pb3 a (by omega) w
    have nw := num_wrong q
    obtain ⟨q1, q2, q3, q4, _⟩ := q
    have pb5 : PBm (updm m4 204 0 r) := PB_fr q1 (fun f _ _ => by rw [ru_ne (by omega)]) (ru_ne (by omega))
    have e8 : updm m4 204 0 r 201 8 = m4 201 8 := by rw [ru_ne (by omega)]
    have efl : flM (updm m4 204 0 r) = flM m4 := by unfold flM; rw [ru_ne (by omega)]
    have pf5 : PFm m1 (updm m4 204 0 r) := pf3.trans (q2.trans ⟨fun f _ => by rw [ru_ne (by omega)], fun j _ _ => by rw [ru_ne (by omega)], fun z _ _ z4 => ru_ne z4⟩)
    refine vc_X11_town_85 ⟨⟨rfl, pb5⟩, fun m6 q6 => ?_⟩
    obtain ⟨x1, x2, x3, x4, x5⟩ := q6
    have r6 : ∀ j : Int, 0 ≤ j → j < 104 → m6 204 j = if j = 0 then r else begC j := fun j j0 j1 => by
      rw [x3, ru_eq]
      by_cases e : j = 0
      · rw [e, r1_eq, if_pos rfl]
      · rw [r1_ne e, if_neg e, q3, r3, c4 j j0 j1]
    have r60 : m6 204 0 = r := by rw [r6 0 (by omega) (by omega), if_pos rfl]
    have r61 : m6 204 1 = 0 := by rw [r6 1 (by omega) (by omega)]; rfl
    have l6 : m6 201 9 = 0 := by rw [x4, ru_ne (by omega), q4, l3]
    have pf6 := pf5.trans x2
    have rb6 : RBm m6 := ⟨by omega, by omega, fun j j0 j1 => by
      rw [r6 (40 + j) (by omega) (by omega), if_neg (by omega)]
      unfold begC
      rw [if_neg (by omega), if_neg (by omega)]
      omega⟩
    have bad : ∀ g : Int, 0 ≤ g → lineE (KT tx n) 0 = g → m6 201 8 = 1 → flM m6 = (1, stT tx n g) → V_X11_town R 89 [(0, kR 201), (1, kI k)] m6 := fun g g0 le w f => loop room 501 3 m6 ⟨x1, pf6, rb6, by omega, by omega, by omega, Or.inl (by
      have e : gramN (KT tx n) 502 0 = g := by
        rw [gram_s (f := 501) (p := 0), if_neg (fun z => absurd z.1 (by omega)), le, if_pos g0]
      exact ⟨w, by rw [e]; exact g0, by rw [e]; exact f⟩)⟩
    have old : m4 201 8 = 1 → m6 201 8 = 1 ∧ flM m6 = flM m4 := fun w => by
      rcases x5 with ⟨a, b, c⟩ | ⟨a, _⟩ | ⟨a, _⟩
      · exact ⟨b, by rw [c, efl]⟩
      · omega
      · omega
    rcases hc with ⟨w, k3, f⟩ | ⟨w, k3, f, at1⟩
    · obtain ⟨a, b, _⟩ := nw w
      obtain ⟨c, d⟩ := old a
      exact bad 0 (by omega) (by unfold lineE; rw [if_pos (Or.inl ⟨rfl, k3⟩)]) c (by rw [d, b, f])
    · have nb : nbK (KT tx n 0) = 1 := by rw [k3]; rfl
      have c1 : ¬ (((0 : Int) = 0 ∧ KT tx n 0 ≠ 3) ∨ ((0 : Int) ≠ 0 ∧ KT tx n 0 = 3) ∨ nbK (KT tx n 0) = 0) := by omega
      obtain ⟨n1, n2⟩ := ns w at1
      by_cases k2 : KT tx n 1 = 2
      · obtain ⟨w4, at2, hv⟩ := n2 k2
        have at5 : AT tx n 2 (updm m4 204 0 r) := at_fr at2 (fun f _ _ => by rw [ru_ne (by omega)]) (by unfold TX; rw [ru_ne (by omega), ru_ne (by omega)])
        have tk5 := at_tok at5
        have wh := at_where at5
        rcases x5 with ⟨a, _⟩ | ⟨a, b, c, d⟩ | ⟨a, b, c, d, e⟩
        · omega
        · refine bad 2 (by omega) ?_ c (by rw [d, wh])
          exact lineE_g (g := 1) c1 (by omega) (by omega) (by rw [nb, if_neg (by omega)]; exact fun z => b (tk5.2.2.1.mpr z)) (fun j j0 j1 => by rw [show (0 : Int) + 1 + j = 1 by omega]; exact k2)
        · have ks : KT tx n 2 = 1 := tk5.2.2.1.mp b
          have at3 : AT tx n 3 m6 := at_next at5 (by omega) pb5.2.2.2.2.1 x2 d
          have le := lineE_ok c1 (fun j j0 j1 => by rw [show (0 : Int) + 1 + j = 1 by omega]; exact k2) (by rw [nb]; exact ks)
          have gr : gramN (KT tx n) 502 0 = gramN (KT tx n) 501 3 := by
            rw [gram_s (f := 501) (p := 0), if_neg (fun z => absurd z.1 (by omega)), le, if_neg (by omega), nb]
            rfl
          refine loop room 501 3 m6 ⟨x1, pf6, rb6, by omega, by omega, by omega, Or.inr ⟨c, at3, by omega, gr, ?_⟩⟩
          have s1 : stT tx n 1 < stT tx n 2 := stT_lt hl.1 (by omega) (kt_lt (by omega))
          have s2 : stT tx n 2 < stT tx n 3 := stT_lt hl.1 (by omega) (kt_lt (by omega))
          rcases hv with ⟨v1, v2, v3, v4⟩ | ⟨v1, v2, v3, v4⟩
          · refine Or.inr ⟨by rw [e, efl, v4, f], by omega, begV (VT tx n 1), RdOk_beg v1, Sh_beg, ?_, by omega, by rw [l6]⟩
            refine ⟨by rw [r60, v2]; rfl, r61, by rw [r6 2 (by omega) (by omega)]; rfl, by rw [r6 3 (by omega) (by omega)]; rfl, fun a a0 a1 => ⟨?_, ?_, ?_⟩, fun j j0 j1 => ?_, by rw [r6 4 (by omega) (by omega)]; rfl⟩
            · rw [r6 _ (by omega) (by omega), if_neg (by omega)]
              unfold begC
              rw [if_neg (by omega), if_neg (by omega)]
              rfl
            · rw [r6 _ (by omega) (by omega), if_neg (by omega)]
              unfold begC
              rw [if_pos (by omega)]
              exact (clip_in (f := fun _ => 12) a0 a1).symm
            · rw [r6 _ (by omega) (by omega), if_neg (by omega)]
              unfold begC
              rw [if_neg (by omega), if_pos (by omega)]
              exact (clip_in (f := fun _ => 1) a0 a1).symm
            · rw [r6 _ (by omega) (by omega), if_neg (by omega)]
              unfold begC
              rw [if_neg (by omega), if_neg (by omega)]
              rfl
          · have f6 : flM m6 = (2, stT tx n 1) := by rw [e, efl, v4, f, also_new rfl]
            refine Or.inl ⟨by rw [f6]; show (2 : Int) ≠ 0; omega, by rw [f6]; exact ⟨by show (2 : Int) ≠ 0; omega, Or.inl (by show stT tx n 1 < stT tx n 3; omega)⟩, fun g0 => ?_⟩
            rw [text_g g0, if_pos (by omega), f6]
      · obtain ⟨a, b, _⟩ := n1 k2
        obtain ⟨c, d⟩ := old a
        refine bad 1 (by omega) ?_ c (by rw [d, b])
        exact lineE_g (g := 0) c1 (by omega) (by omega) (by rw [nb, if_pos (by omega)]; exact k2) (fun j j0 j1 => absurd j1 (by omega))
  have go45 : ((k = -1 ∧ μ 202 0 < 3) ∨ (0 ≤ k ∧ k < μ 202 0)) → ∀ m2 : Mem, Q_X11_advance 201 m1 m2 → V_X11_town R 45 [(0, kR 201), (1, kI k)] m2 := fun room m2 q => by
    obtain ⟨pb, pf, at0, fl, w, l9, r4⟩ := adv m2 q
    have tk := at_tok at0
    have tk4 := pb.2.2.2.1
    have wh := at_where at0
    have wrong : ∀ m3 : Mem, KT tx n 0 ≠ 3 → Q_X11_ends 201 m2 m3 → V_X11_town R 72 [(0, kR 201), (1, kI k)] m3 := fun m3 k3 q => by
      obtain ⟨x1, x2, x3, x4, x5, x6, x7⟩ := ends_PB pb q
      exact go72 room m3 x1 (pf.trans x2) (by rw [x4 9 (by omega), l9]) (by rw [x3, r4]) (Or.inl ⟨x5, k3, by rw [x7 w, wh]⟩)
    refine vc_X11_town_45 ⟨rr (by omega), fun c => ⟨⟨rfl, pb.1⟩, fun m3 q => wrong m3 (fun z => c (tk.2.2.2.mpr (by omega))) q⟩, fun c => ?_⟩
    have k39 := tk.2.2.2.mp (Classical.not_not.mp c)
    have wo := at_word at0 k39.1 k39.2
    refine ⟨rr (by omega), fun d => ⟨⟨rfl, pb.1⟩, fun m3 q => wrong m3 (fun z => d (by omega)) q⟩, fun d => ⟨⟨rfl, pb.2.2.2.2.1, pb.2.2.2.2.2.1⟩, fun m3 q => vc_X11_town_65 ?_⟩⟩
    obtain ⟨y1, y2, y3⟩ := q
    obtain ⟨z1, z2, z3, z4⟩ := adv_PB pb y1 y2 y3
    exact go72 room m3 z1 (pf.trans z2) (by rw [y2 9 (by omega), l9]) (by rw [y3 204 (by omega), r4]) (Or.inr ⟨by rw [z4, w], by have := Classical.not_not.mp d; omega, by rw [z3, fl], at_next at0 (by omega) pb.2.2.2.2.1 z2 y1⟩)
  have no : ¬ ((k = -1 ∧ μ 202 0 < 3) ∨ (0 ≤ k ∧ k < μ 202 0)) → R m1 (some (kI (-2))) := fun c => hR m1 (-2) (by
    unfold Q_X11_town townS
    rw [if_pos (by rw [mn_3]; exact c)]
    have st := state m1 (fun j x y z => bf j x y z) (zf 203 (by omega) (by omega) (by omega)) b2
    rw [b3, b4] at st
    exact ⟨st, rfl, fun z hz => zf z (by omega) (by omega) (by omega)⟩)
  have h0 : m1 202 0 = μ 202 0 := bf 0 (by omega) (by omega) (by omega)
  have pa : P_X11_advance 201 m1 := ⟨rfl, tb, by omega, by omega⟩
  have fe : F_X11_isIn k 0 (m1 202 0 - 1) m1 = if 0 ≤ k ∧ k ≤ m1 202 0 - 1 then 1 else 0 := rfl
  refine vc_X11_town_4 ⟨rk, fun c => ⟨⟨rk, rr (by omega), rr (by omega)⟩, ?_, fun d => ⟨pa, fun m2 q => go45 ?_ m2 q⟩, fun d => no ?_⟩, fun c => ⟨rr (by omega), fun d => ⟨pa, fun m2 q => go45 ?_ m2 q⟩, fun d => no ?_⟩⟩
  · rw [fe]
    split
    · exact rr (by omega)
    · exact rr (by omega)
  · rw [fe] at d
    by_cases e : 0 ≤ k ∧ k ≤ m1 202 0 - 1
    · omega
    · exact absurd (if_neg e) d
  · rw [fe] at d
    by_cases e : 0 ≤ k ∧ k ≤ m1 202 0 - 1
    · rw [if_pos e] at d
      omega
    · omega
  · omega
  · omega
theorem ct_X11_town : Ct mX11_town 8 181 0 0 (nrmS S_X11_town) := by
  refine ct_vm (own := RX11) (by decide +kernel) rfl ?_ ?_
  · intro as μ Q hS
    unfold S_X11_town at hS
    split at hS
    · exact Nat.le_of_ble_eq_true rfl
    · exact hS.elim
  · intro as μ R hS
    unfold S_X11_town at hS
    split at hS
    · exact body_X11_town hS.1 hS.2
    · exact hS.elim
