/-- a search: the draw at hand, where it was found, minutes, misses -/
abbrev RS : Type := Int × Int × Int × Int
def seekF (v : TV) (lies : Int) (s : RS) (i : Int) : RS := if s.2.1 ≠ 0 then s else if rowV v i ≠ lies then (s.1, 0, s.2.2.1 + v 6 (rowV v i), s.2.2.2) else if numV (drawV s.1) % 12 < v 5 (rowV v i) then (drawV s.1, i + 1, s.2.2.1 + v 6 (rowV v i), s.2.2.2) else (drawV s.1, 0, s.2.2.1 + v 6 (rowV v i), s.2.2.2 + 1)
def seekV (v : TV) (lies x n : Int) : RS := fold (seekF v lies) (x, 0, 0, 0) n
theorem seekV_s {v : TV} {lies x n : Int} (h : 0 ≤ n) : seekV v lies x (n + 1) = seekF v lies (seekV v lies x n) n := fold_s h
theorem seekV_stay {v : TV} {lies x n : Int} (h0 : 0 ≤ n) (hf : (seekV v lies x n).2.1 ≠ 0) : ∀ m : Int, n ≤ m → seekV v lies x m = seekV v lies x n := by
  intro m hm
  refine up_from (P := fun k => seekV v lies x k = seekV v lies x n) (lo := n) (hi := m) rfl (fun i i0 _ ih => ?_) m hm (Int.le_refl m)
  rw [seekV_s (by omega), ih]
  exact if_pos hf
theorem cntV_bd (v : TV) : 0 ≤ cntV v ∧ cntV v ≤ 64 := by
  unfold cntV
  rcases frst_cases (fun n => rowV v n == -1) (n := 64) (by omega) with ⟨e, -⟩ | ⟨k, k0, k1, e, -⟩
  · rw [if_pos (by omega)]; omega
  · rw [if_neg (by omega), e]; omega
theorem cntV_row {v : TV} {i : Int} (i0 : 0 ≤ i) (i1 : i < cntV v) : rowV v i ≠ -1 := by
  unfold cntV at i1
  rcases frst_cases (fun n => rowV v n == -1) (n := 64) (by omega) with ⟨e, h⟩ | ⟨k, k0, k1, e, -, h⟩
  · rw [if_pos (by omega)] at i1
    have := h i i0 i1
    simpa using this
  · rw [if_neg (by omega), e] at i1
    have := h i i0 i1
    simpa using this
theorem byNumV_bd {v : TV} (ok : TVok v) {k : Int} : 0 ≤ byNumV v k ∧ byNumV v k ≤ 8 := by
  have := ok.1
  unfold byNumV
  rcases frst_cases (fun a => decide (k < sm (v 4) (a + 1))) (n := v 0 0) (by omega) with ⟨e, -⟩ | ⟨j, j0, j1, e, -⟩ <;> rw [e] <;> omega
def liesV (v : TV) (all seed : Int) : Int := byNumV v (numV (drawV seed) % all)
def runV (v : TV) (all most seed : Int) : RS := seekV v (liesV v all seed) (drawV seed) (min most (cntV v))
def P_X9_seek (w t o most _ : Int) (μ : Mem) : Prop := isW w ∧ o = 180 ∧ TB μ t ∧ (t + 9 < w ∨ w < t) ∧ LookR μ (tv μ t) (cntV (tv μ t)) ∧ (0 < μ t 3 ∧ μ t 3 ≤ 792) ∧ (0 ≤ most ∧ most ≤ 64)
def Q_X9_seek (w t _ most seed : Int) (μ μ' : Mem) : Prop := μ' w 7 = liesV (tv μ t) (μ t 3) seed ∧ μ' w 8 = (runV (tv μ t) (μ t 3) most seed).2.1 ∧ μ' w 9 = (runV (tv μ t) (μ t 3) most seed).2.2.1 ∧ μ' w 10 = (runV (tv μ t) (μ t 3) most seed).2.2.2 ∧ μ' w 6 = μ w 6 + 1 ∧ (∀ k : Int, k < 6 ∨ 10 < k → μ' w k = μ w k) ∧ ∀ z : Int, z ≠ w → μ' z = μ z
def S_X9_seek : S0t := fun as μ Q => match as with
  | [(2, x0), (2, x1), (2, x2), (0, x3), (0, x4)] => P_X9_seek x0 x1 x2 x3 x4 μ ∧ ∀ (μ' : Mem) , Q_X9_seek x0 x1 x2 x3 x4 μ μ'  → Q μ' none
  | _ => False
theorem mono_X9_seek : Mono S_X9_seek := by
  intro as μ Q Q' h hS
  unfold S_X9_seek at hS ⊢
  split at hS
  · exact ⟨hS.1, fun μ' q => h _ _ (hS.2 _ q)⟩
  · exact hS.elim
def iX9_seek : Inf := (kX9_seek, fTX9, pTX9, cTX9, lTX9, sTX9, [(60, 1, 1, 0, S_X10_drawAfter), (64, 1, 1, 0, S_X10_numberOf), (67, 0, 1, 7, S_X7_cellarByNumber)])
theorem ok_X9_seek : infOK iX9_seek mX9_seek RX9 1 23 := ⟨kkX9_seek, fTX9_ok, pTX9_ok _, cTX9_ok, lTX9_ok, sTX9_ok, c_cons ⟨mX10_drawAfter, 0, 0, ct_X10_drawAfter, mmX10_drawAfter, stX10_drawAfter, lkX9_60, ⟨by decide, by decide⟩, mono_X10_drawAfter⟩ (c_cons ⟨mX10_numberOf, 0, 0, ct_X10_numberOf, mmX10_numberOf, stX10_numberOf, lkX9_64, ⟨by decide, by decide⟩, mono_X10_numberOf⟩ (c_cons ⟨mX7_cellarByNumber, 0, 0, ct_X7_cellarByNumber, mmX7_cellarByNumber, vvX7_cellarByNumber, lkX9_67, ⟨by decide, by decide⟩, ⟨_, _, rfl⟩, by decide, mono_X7_cellarByNumber⟩ (c_nil)))⟩
theorem mt_X9_seek : mtOK [] RX9 1 23 := mt_nil
abbrev V_X9_seek (R : Mem → Option AV → Prop) (pc : Nat) (lc : List (Nat × AV)) (μ : Mem) : Prop := VM mX9_seek RX9 1 23 R pc lc [] μ
set_option maxRecDepth 20000 in
theorem vc_X9_seek_0 {R : Mem → Option AV → Prop} {most seed w t : Int} {μ : Mem} (hw : isW w) (ht : isT t) (H : P_X7_cellarByNumber t (F_X10_numberOf (F_X10_drawAfter seed μ) μ) μ ∧ V_X9_seek R 20 [(0, kR w), (1, kR t), (2, kR 180), (3, kI most), (5, kI (F_X10_drawAfter seed μ))] (updm μ w 7 (F_X7_cellarByNumber t (F_X10_numberOf (F_X10_drawAfter seed μ) μ) μ))) : V_X9_seek R 0 [(0, kR w), (1, kR t), (2, kR 180), (3, kI most), (4, kI seed)] μ := by
  refine vm_step2 mt_X9_seek ok_X9_seek [(20, [0, 1, 2, 3, 5]), (25, [0, 1, 2, 3, 5]), (30, [0, 1, 2, 3, 5]), (35, [0, 1, 2, 3, 5]), (38, [0, 1, 2, 3, 5, 6]), (85, [0, 1, 2, 3, 5, 6, 7]), (127, [0, 1, 2, 3, 5, 6]), (140, [0, 1, 2, 3, 5, 6])] 1000 ?_
  show P_X10_drawAfter seed μ ∧ P_X10_numberOf (F_X10_drawAfter seed μ) μ ∧ isC t 7 ∧ P_X7_cellarByNumber t (F_X10_numberOf (F_X10_drawAfter seed μ) μ) μ ∧ isC w 9 ∧ 0 = 0 ∧ True ∧ V_X9_seek R 20 [(0, kR w), (1, kR t), (2, kR 180), (3, kI most), (5, kI (F_X10_drawAfter seed μ))] (updm μ w 7 (F_X7_cellarByNumber t (F_X10_numberOf (F_X10_drawAfter seed μ) μ) μ))
  exact ⟨trivial, ⟨trivial, ⟨isT_C ht, H.1, ⟨isW_C hw, rfl, trivial, H.2⟩⟩⟩⟩
set_option maxRecDepth 20000 in
theorem vc_X9_seek_20 {R : Mem → Option AV → Prop} {most x w t : Int} {μ : Mem} (hw : isW w) (ht : isT t) (H : V_X9_seek R 25 [(0, kR w), (1, kR t), (2, kR 180), (3, kI most), (5, kI x)] (updm μ w 8 0)) : V_X9_seek R 20 [(0, kR w), (1, kR t), (2, kR 180), (3, kI most), (5, kI x)] μ := by
  refine vm_step2 mt_X9_seek ok_X9_seek [(20, [0, 1, 2, 3, 5]), (25, [0, 1, 2, 3, 5]), (30, [0, 1, 2, 3, 5]), (35, [0, 1, 2, 3, 5]), (38, [0, 1, 2, 3, 5, 6]), (85, [0, 1, 2, 3, 5, 6, 7]), (127, [0, 1, 2, 3, 5, 6]), (140, [0, 1, 2, 3, 5, 6])] 1000 ?_
  show isC w 9 ∧ 0 = 0 ∧ True ∧ V_X9_seek R 25 [(0, kR w), (1, kR t), (2, kR 180), (3, kI most), (5, kI x)] (updm μ w 8 0)
  exact ⟨isW_C hw, rfl, trivial, H⟩
set_option maxRecDepth 20000 in
theorem vc_X9_seek_25 {R : Mem → Option AV → Prop} {most x w t : Int} {μ : Mem} (hw : isW w) (ht : isT t) (H : V_X9_seek R 30 [(0, kR w), (1, kR t), (2, kR 180), (3, kI most), (5, kI x)] (updm μ w 9 0)) : V_X9_seek R 25 [(0, kR w), (1, kR t), (2, kR 180), (3, kI most), (5, kI x)] μ := by
  refine vm_step2 mt_X9_seek ok_X9_seek [(20, [0, 1, 2, 3, 5]), (25, [0, 1, 2, 3, 5]), (30, [0, 1, 2, 3, 5]), (35, [0, 1, 2, 3, 5]), (38, [0, 1, 2, 3, 5, 6]), (85, [0, 1, 2, 3, 5, 6, 7]), (127, [0, 1, 2, 3, 5, 6]), (140, [0, 1, 2, 3, 5, 6])] 1000 ?_
  show isC w 9 ∧ 0 = 0 ∧ True ∧ V_X9_seek R 30 [(0, kR w), (1, kR t), (2, kR 180), (3, kI most), (5, kI x)] (updm μ w 9 0)
  exact ⟨isW_C hw, rfl, trivial, H⟩
set_option maxRecDepth 20000 in
theorem vc_X9_seek_30 {R : Mem → Option AV → Prop} {most x w t : Int} {μ : Mem} (hw : isW w) (ht : isT t) (H : V_X9_seek R 35 [(0, kR w), (1, kR t), (2, kR 180), (3, kI most), (5, kI x)] (updm μ w 10 0)) : V_X9_seek R 30 [(0, kR w), (1, kR t), (2, kR 180), (3, kI most), (5, kI x)] μ := by
  refine vm_step2 mt_X9_seek ok_X9_seek [(20, [0, 1, 2, 3, 5]), (25, [0, 1, 2, 3, 5]), (30, [0, 1, 2, 3, 5]), (35, [0, 1, 2, 3, 5]), (38, [0, 1, 2, 3, 5, 6]), (85, [0, 1, 2, 3, 5, 6, 7]), (127, [0, 1, 2, 3, 5, 6]), (140, [0, 1, 2, 3, 5, 6])] 1000 ?_
  show isC w 9 ∧ 0 = 0 ∧ True ∧ V_X9_seek R 35 [(0, kR w), (1, kR t), (2, kR 180), (3, kI most), (5, kI x)] (updm μ w 10 0)
  exact ⟨isW_C hw, rfl, trivial, H⟩
set_option maxRecDepth 20000 in
theorem vc_X9_seek_35 {R : Mem → Option AV → Prop} {most x w t : Int} {μ : Mem} (hw : isW w) (ht : isT t) (H : V_X9_seek R 38 [(0, kR w), (1, kR t), (2, kR 180), (3, kI most), (5, kI x), (6, kI 0)] μ) : V_X9_seek R 35 [(0, kR w), (1, kR t), (2, kR 180), (3, kI most), (5, kI x)] μ := by
  refine vm_step2 mt_X9_seek ok_X9_seek [(20, [0, 1, 2, 3, 5]), (25, [0, 1, 2, 3, 5]), (30, [0, 1, 2, 3, 5]), (35, [0, 1, 2, 3, 5]), (38, [0, 1, 2, 3, 5, 6]), (85, [0, 1, 2, 3, 5, 6, 7]), (127, [0, 1, 2, 3, 5, 6]), (140, [0, 1, 2, 3, 5, 6])] 1000 ?_
  show V_X9_seek R 38 [(0, kR w), (1, kR t), (2, kR 180), (3, kI most), (5, kI x), (6, kI 0)] μ
  exact H
set_option maxRecDepth 20000 in
theorem vc_X9_seek_38 {R : Mem → Option AV → Prop} {most x i w t : Int} {μ : Mem} (hw : isW w) (ht : isT t) (H : r32 i ∧ r32 most ∧ ((most ≤ i) → R (updm μ w 6 ((μ w 6) + 1)) none) ∧ (¬ (most ≤ i) → r32 i ∧ r32 (μ 180 5) ∧ (((μ 180 5) ≤ i) → R (updm μ w 6 ((μ w 6) + 1)) none) ∧ (¬ ((μ 180 5) ≤ i) → r32 (μ w 8) ∧ ((¬ (μ w 8) = 0) → R (updm μ w 6 ((μ w 6) + 1)) none) ∧ (¬ (¬ (μ w 8) = 0) → (0 ≤ i ∧ i < 64) ∧ (0 ≤ (μ 181 i) ∧ (μ 181 i) < 8) ∧ V_X9_seek R 85 [(0, kR w), (1, kR t), (2, kR 180), (3, kI most), (5, kI x), (6, kI i), (7, kI (μ 181 i))] (updm μ w 9 ((μ w 9) + (μ (t + 5) (μ 181 i)))))))) : V_X9_seek R 38 [(0, kR w), (1, kR t), (2, kR 180), (3, kI most), (5, kI x), (6, kI i)] μ := by
  refine vm_step2 mt_X9_seek ok_X9_seek [(20, [0, 1, 2, 3, 5]), (25, [0, 1, 2, 3, 5]), (30, [0, 1, 2, 3, 5]), (35, [0, 1, 2, 3, 5]), (38, [0, 1, 2, 3, 5, 6]), (85, [0, 1, 2, 3, 5, 6, 7]), (127, [0, 1, 2, 3, 5, 6]), (140, [0, 1, 2, 3, 5, 6])] 1000 ?_
  show (r32 i ∧ r32 most) ∧ ((most ≤ i) → isC w 9 ∧ isC w 9 ∧ 0 = 0 ∧ True ∧ R (updm μ w 6 ((μ w 6) + 1)) none) ∧ (¬ (most ≤ i) → isC 180 1 ∧ (r32 i ∧ r32 (μ 180 5)) ∧ (((μ 180 5) ≤ i) → isC w 9 ∧ isC w 9 ∧ 0 = 0 ∧ True ∧ R (updm μ w 6 ((μ w 6) + 1)) none) ∧ (¬ ((μ 180 5) ≤ i) → isC w 9 ∧ r32 (μ w 8) ∧ ((¬ (μ w 8) = 0) → isC w 9 ∧ isC w 9 ∧ 0 = 0 ∧ True ∧ R (updm μ w 6 ((μ w 6) + 1)) none) ∧ (¬ (¬ (μ w 8) = 0) → isC 180 1 ∧ inA 181 0 i ∧ isC w 9 ∧ isC t 7 ∧ inA (t + 5) 0 (μ 181 i) ∧ isC w 9 ∧ 0 = 0 ∧ True ∧ V_X9_seek R 85 [(0, kR w), (1, kR t), (2, kR 180), (3, kI most), (5, kI x), (6, kI i), (7, kI (μ 181 i))] (updm μ w 9 ((μ w 9) + (μ (t + 5) (μ 181 i)))))))
  exact ⟨⟨H.1, H.2.1⟩, fun hc3 => ⟨isW_C hw, ⟨isW_C hw, rfl, trivial, (H.2.2.1 hc3)⟩⟩, fun hc3 => ⟨c_180, ⟨⟨(H.2.2.2 hc3).1, (H.2.2.2 hc3).2.1⟩, fun hc2 => ⟨isW_C hw, ⟨isW_C hw, rfl, trivial, ((H.2.2.2 hc3).2.2.1 hc2)⟩⟩, fun hc2 => ⟨isW_C hw, ⟨((H.2.2.2 hc3).2.2.2 hc2).1, fun hc1 => ⟨isW_C hw, ⟨isW_C hw, rfl, trivial, (((H.2.2.2 hc3).2.2.2 hc2).2.1 hc1)⟩⟩, fun hc1 => ⟨c_180, ⟨isArr.in a_181 (((H.2.2.2 hc3).2.2.2 hc2).2.2 hc1).1.1 (((H.2.2.2 hc3).2.2.2 hc2).2.2 hc1).1.2, ⟨isW_C hw, ⟨isT_C ht, ⟨isArr.in (T_dig ht) (((H.2.2.2 hc3).2.2.2 hc2).2.2 hc1).2.1.1 (((H.2.2.2 hc3).2.2.2 hc2).2.2 hc1).2.1.2, ⟨isW_C hw, rfl, trivial, (((H.2.2.2 hc3).2.2.2 hc2).2.2 hc1).2.2⟩⟩⟩⟩⟩⟩⟩⟩⟩⟩⟩
set_option maxRecDepth 20000 in
theorem vc_X9_seek_85 {R : Mem → Option AV → Prop} {most x i p w t : Int} {μ : Mem} (hw : isW w) (ht : isT t) (H : r32 p ∧ r32 (μ w 7) ∧ ((¬ p = (μ w 7)) → V_X9_seek R 140 [(0, kR w), (1, kR t), (2, kR 180), (3, kI most), (5, kI x), (6, kI i)] μ) ∧ (¬ (¬ p = (μ w 7)) → r32 (F_X10_numberOf (F_X10_drawAfter x μ) μ) ∧ (0 ≤ p ∧ p < 8) ∧ r32 (Int.tmod (F_X10_numberOf (F_X10_drawAfter x μ) μ) 12) ∧ r32 (μ (t + 4) p) ∧ (((μ (t + 4) p) ≤ (Int.tmod (F_X10_numberOf (F_X10_drawAfter x μ) μ) 12)) → V_X9_seek R 140 [(0, kR w), (1, kR t), (2, kR 180), (3, kI most), (5, kI (F_X10_drawAfter x μ)), (6, kI i)] (updm μ w 10 ((μ w 10) + 1))) ∧ (¬ ((μ (t + 4) p) ≤ (Int.tmod (F_X10_numberOf (F_X10_drawAfter x μ) μ) 12)) → V_X9_seek R 127 [(0, kR w), (1, kR t), (2, kR 180), (3, kI most), (5, kI (F_X10_drawAfter x μ)), (6, kI i)] (updm μ w 8 (i + 1))))) : V_X9_seek R 85 [(0, kR w), (1, kR t), (2, kR 180), (3, kI most), (5, kI x), (6, kI i), (7, kI p)] μ := by
  refine vm_step2 mt_X9_seek ok_X9_seek [(20, [0, 1, 2, 3, 5]), (25, [0, 1, 2, 3, 5]), (30, [0, 1, 2, 3, 5]), (35, [0, 1, 2, 3, 5]), (38, [0, 1, 2, 3, 5, 6]), (85, [0, 1, 2, 3, 5, 6, 7]), (127, [0, 1, 2, 3, 5, 6]), (140, [0, 1, 2, 3, 5, 6])] 1000 ?_
  show isC w 9 ∧ (r32 p ∧ r32 (μ w 7)) ∧ ((¬ p = (μ w 7)) → V_X9_seek R 140 [(0, kR w), (1, kR t), (2, kR 180), (3, kI most), (5, kI x), (6, kI i)] μ) ∧ (¬ (¬ p = (μ w 7)) → P_X10_drawAfter x μ ∧ P_X10_numberOf (F_X10_drawAfter x μ) μ ∧ (r32 (F_X10_numberOf (F_X10_drawAfter x μ) μ) ∧ r32 (12 : Int) ∧ (12 : Int) ≠ 0) ∧ isC t 7 ∧ inA (t + 4) 0 p ∧ (r32 (Int.tmod (F_X10_numberOf (F_X10_drawAfter x μ) μ) 12) ∧ r32 (μ (t + 4) p)) ∧ (((μ (t + 4) p) ≤ (Int.tmod (F_X10_numberOf (F_X10_drawAfter x μ) μ) 12)) → isC w 9 ∧ isC w 9 ∧ 0 = 0 ∧ True ∧ V_X9_seek R 140 [(0, kR w), (1, kR t), (2, kR 180), (3, kI most), (5, kI (F_X10_drawAfter x μ)), (6, kI i)] (updm μ w 10 ((μ w 10) + 1))) ∧ (¬ ((μ (t + 4) p) ≤ (Int.tmod (F_X10_numberOf (F_X10_drawAfter x μ) μ) 12)) → isC w 9 ∧ 0 = 0 ∧ True ∧ V_X9_seek R 127 [(0, kR w), (1, kR t), (2, kR 180), (3, kI most), (5, kI (F_X10_drawAfter x μ)), (6, kI i)] (updm μ w 8 (i + 1))))
  exact ⟨isW_C hw, ⟨⟨H.1, H.2.1⟩, fun hc5 => (H.2.2.1 hc5), fun hc5 => ⟨trivial, ⟨trivial, ⟨⟨(H.2.2.2 hc5).1, by unfold r32; omega, by omega⟩, ⟨isT_C ht, ⟨isArr.in (T_dog ht) (H.2.2.2 hc5).2.1.1 (H.2.2.2 hc5).2.1.2, ⟨⟨(H.2.2.2 hc5).2.2.1, (H.2.2.2 hc5).2.2.2.1⟩, fun hc4 => ⟨isW_C hw, ⟨isW_C hw, rfl, trivial, ((H.2.2.2 hc5).2.2.2.2.1 hc4)⟩⟩, fun hc4 => ⟨isW_C hw, rfl, trivial, ((H.2.2.2 hc5).2.2.2.2.2 hc4)⟩⟩⟩⟩⟩⟩⟩⟩⟩
set_option maxRecDepth 20000 in
theorem vc_X9_seek_127 {R : Mem → Option AV → Prop} {most x i w t : Int} {μ : Mem} (hw : isW w) (ht : isT t) (H : V_X9_seek R 140 [(0, kR w), (1, kR t), (2, kR 180), (3, kI most), (5, kI x), (6, kI i)] μ) : V_X9_seek R 127 [(0, kR w), (1, kR t), (2, kR 180), (3, kI most), (5, kI x), (6, kI i)] μ := by
  refine vm_step2 mt_X9_seek ok_X9_seek [(20, [0, 1, 2, 3, 5]), (25, [0, 1, 2, 3, 5]), (30, [0, 1, 2, 3, 5]), (35, [0, 1, 2, 3, 5]), (38, [0, 1, 2, 3, 5, 6]), (85, [0, 1, 2, 3, 5, 6, 7]), (127, [0, 1, 2, 3, 5, 6]), (140, [0, 1, 2, 3, 5, 6])] 1000 ?_
  show V_X9_seek R 140 [(0, kR w), (1, kR t), (2, kR 180), (3, kI most), (5, kI x), (6, kI i)] μ
  exact H
set_option maxRecDepth 20000 in
theorem vc_X9_seek_140 {R : Mem → Option AV → Prop} {most x i w t : Int} {μ : Mem} (hw : isW w) (ht : isT t) (H : V_X9_seek R 38 [(0, kR w), (1, kR t), (2, kR 180), (3, kI most), (5, kI x), (6, kI (i + 1))] μ) : V_X9_seek R 140 [(0, kR w), (1, kR t), (2, kR 180), (3, kI most), (5, kI x), (6, kI i)] μ := by
  refine vm_step2 mt_X9_seek ok_X9_seek [(20, [0, 1, 2, 3, 5]), (25, [0, 1, 2, 3, 5]), (30, [0, 1, 2, 3, 5]), (35, [0, 1, 2, 3, 5]), (38, [0, 1, 2, 3, 5, 6]), (85, [0, 1, 2, 3, 5, 6, 7]), (127, [0, 1, 2, 3, 5, 6]), (140, [0, 1, 2, 3, 5, 6])] 1000 ?_
  show V_X9_seek R 38 [(0, kR w), (1, kR t), (2, kR 180), (3, kI most), (5, kI x), (6, kI (i + 1))] μ
  exact H
theorem body_X9_seek {w t o most seed : Int} {μ : Mem} {R : Mem → Option AV → Prop} (h : P_X9_seek w t o most seed μ) (hR : ∀ μ' : Mem, Q_X9_seek w t o most seed μ μ' → R μ' none) : V_X9_seek R 0 [(0, kR w), (1, kR t), (2, kR o), (3, kI most), (4, kI seed)] μ := by
  obtain ⟨hw, rfl, ⟨ht, ok⟩, hap, hlr, h3, hm⟩ := h
  have hcb := cntV_bd (tv μ t)
  have hw2 : w ≤ 101 := by
    have key : ∀ t ∈ ([1, 35, 68, 101] : List Int), t ≤ 101 := by decide +kernel
    exact key w hw
  have hp0 : 0 ≤ tv μ t 0 0 := by have := ok.1; omega
  have nb := numV_bd (drawV seed)
  have hlb : 0 ≤ liesV (tv μ t) (μ t 3) seed ∧ liesV (tv μ t) (μ t 3) seed ≤ 8 := byNumV_bd ok
  refine vc_X9_seek_0 hw ht ⟨⟨⟨ht, ok⟩, rr (by show -2147483648 ≤ numV (drawV seed) ∧ numV (drawV seed) ≤ 2147483647; omega), nb.1, h3⟩, ?_⟩
  show V_X9_seek R 20 [(0, kR w), (1, kR t), (2, kR 180), (3, kI most), (5, kI (drawV seed))] (updm μ w 7 (liesV (tv μ t) (μ t 3) seed))
  refine vc_X9_seek_20 hw ht (vc_X9_seek_25 hw ht (vc_X9_seek_30 hw ht (vc_X9_seek_35 hw ht ?_)))
  have hRV : runV (tv μ t) (μ t 3) most seed = seekV (tv μ t) (liesV (tv μ t) (μ t 3) seed) (drawV seed) (min most (cntV (tv μ t))) := rfl
  unfold Q_X9_seek at hR
  rw [hRV] at hR
  generalize liesV (tv μ t) (μ t 3) seed = lies at hR hlb ⊢
  generalize drawV seed = x0 at hR ⊢
  have fin : ∀ (i : Int) (m : Mem), 0 ≤ i → i ≤ min most (cntV (tv μ t)) → (i = min most (cntV (tv μ t)) ∨ (seekV (tv μ t) lies x0 i).2.1 ≠ 0) → m w 7 = lies → m w 8 = (seekV (tv μ t) lies x0 i).2.1 → m w 9 = (seekV (tv μ t) lies x0 i).2.2.1 → m w 10 = (seekV (tv μ t) lies x0 i).2.2.2 → (∀ k : Int, k < 7 ∨ 10 < k → m w k = μ w k) → (∀ z : Int, z ≠ w → m z = μ z) → R (updm m w 6 (m w 6 + 1)) none := by
    intro i m i0 i1 he a7 a8 a9 a10 hk hf
    have e : seekV (tv μ t) lies x0 (min most (cntV (tv μ t))) = seekV (tv μ t) lies x0 i := by
      rcases he with he | he
      · rw [← he]
      · exact seekV_stay i0 he _ i1
    refine hR _ ⟨?_, ?_, ?_, ?_, ?_, fun k hk2 => ?_, fun z hz => ?_⟩
    · rw [ru_eq, r1_ne (by omega), a7]
    · rw [ru_eq, r1_ne (by omega), a8, e]
    · rw [ru_eq, r1_ne (by omega), a9, e]
    · rw [ru_eq, r1_ne (by omega), a10, e]
    · rw [ru_eq, r1_eq, hk 6 (by omega)]
    · rw [ru_eq, r1_ne (by omega)]; exact hk k (by omega)
    · rw [ru_ne hz]; exact hf z hz
  have main : ∀ i : Int, 0 ≤ i → i ≤ min most (cntV (tv μ t)) → ∀ m : Mem, m w 7 = lies → m w 8 = (seekV (tv μ t) lies x0 i).2.1 → m w 9 = (seekV (tv μ t) lies x0 i).2.2.1 → m w 10 = (seekV (tv μ t) lies x0 i).2.2.2 → (∀ k : Int, k < 7 ∨ 10 < k → m w k = μ w k) → (∀ z : Int, z ≠ w → m z = μ z) → (0 ≤ (seekV (tv μ t) lies x0 i).2.1 ∧ (seekV (tv μ t) lies x0 i).2.1 ≤ 64) → V_X9_seek R 38 [(0, kR w), (1, kR t), (2, kR 180), (3, kI most), (5, kI (seekV (tv μ t) lies x0 i).1), (6, kI i)] m := by
    refine up_ind (P := fun i => ∀ m : Mem, m w 7 = lies → m w 8 = (seekV (tv μ t) lies x0 i).2.1 → m w 9 = (seekV (tv μ t) lies x0 i).2.2.1 → m w 10 = (seekV (tv μ t) lies x0 i).2.2.2 → (∀ k : Int, k < 7 ∨ 10 < k → m w k = μ w k) → (∀ z : Int, z ≠ w → m z = μ z) → (0 ≤ (seekV (tv μ t) lies x0 i).2.1 ∧ (seekV (tv μ t) lies x0 i).2.1 ≤ 64) → V_X9_seek R 38 [(0, kR w), (1, kR t), (2, kR 180), (3, kI most), (5, kI (seekV (tv μ t) lies x0 i).1), (6, kI i)] m) ?_ ?_
    · intro i i0 i1 ih m a7 a8 a9 a10 hk hf hb
      have e5c : m 180 5 = cntV (tv μ t) := by rw [hf 180 (by omega)]; exact hlr.1
      have er : m 181 i = rowV (tv μ t) i := by rw [hf 181 (by omega)]; exact hlr.2.1 i i0 (by omega)
      have hro := rowV_ok (v := tv μ t) hp0 i
      have hne := cntV_row (v := tv μ t) i0 (show i < cntV (tv μ t) by omega)
      rw [seekV_s i0] at ih
      have hfin := fun q => fin i m i0 (by omega) (Or.inr q) a7 a8 a9 a10 hk hf
      refine vc_X9_seek_38 hw ht ?_
      rw [e5c, er, a8]
      refine ⟨rr (by omega), rr (by omega), fun c => absurd c (by omega), fun _ => ⟨rr (by omega), rr (by omega), fun c => absurd c (by omega), fun _ => ⟨rr (by omega), fun c => hfin c, fun c => ?_⟩⟩⟩
      rcases hro with hro | ⟨hr1, hr2, hr3⟩
      · exact absurd hro hne
      · have hr8 : rowV (tv μ t) i < 8 := by have := ok.1; omega
        have hcr := ok.2.2.2.1 _ hr1.1 hr8
        have ed : m (t + 5) (rowV (tv μ t) i) = tv μ t 6 (rowV (tv μ t) i) := by rw [hf (t + 5) (by omega)]; exact e6 μ t hr1.1 hr8
        rw [ed, a9]
        refine ⟨⟨i0, by omega⟩, ⟨hr1.1, hr8⟩, ?_⟩
        obtain ⟨m1, q1⟩ : ∃ x, x = updm m w 9 ((seekV (tv μ t) lies x0 i).2.2.1 + tv μ t 6 (rowV (tv μ t) i)) := ⟨_, rfl⟩
        rw [← q1]
        have b7 : m1 w 7 = lies := by rw [q1, ru_eq, r1_ne (by omega), a7]
        have b8 : m1 w 8 = (seekV (tv μ t) lies x0 i).2.1 := by rw [q1, ru_eq, r1_ne (by omega), a8]
        have b9 : m1 w 9 = (seekV (tv μ t) lies x0 i).2.2.1 + tv μ t 6 (rowV (tv μ t) i) := by rw [q1, ru_eq, r1_eq]
        have b10 : m1 w 10 = (seekV (tv μ t) lies x0 i).2.2.2 := by rw [q1, ru_eq, r1_ne (by omega), a10]
        have bk : ∀ k : Int, k < 7 ∨ 10 < k → m1 w k = μ w k := fun k h => by rw [q1, ru_eq, r1_ne (by omega)]; exact hk k h
        have bf : ∀ z : Int, z ≠ w → m1 z = μ z := fun z h => by rw [q1, ru_ne h]; exact hf z h
        have hz0 : (seekV (tv μ t) lies x0 i).2.1 = 0 := by omega
        generalize hS : seekV (tv μ t) lies x0 i = S at *
        generalize hrow : rowV (tv μ t) i = r at *
        have hdg : m1 (t + 4) r = tv μ t 5 r := by rw [bf (t + 4) (by omega)]; exact e5 μ t hr1.1 hr8
        have nb2 := numV_bd (drawV S.1)
        have etm : Int.tmod (numV (drawV S.1)) 12 = numV (drawV S.1) % 12 := Int.tmod_eq_emod_of_nonneg nb2.1
        have eF : seekF (tv μ t) lies S i = if r ≠ lies then (S.1, 0, S.2.2.1 + tv μ t 6 r, S.2.2.2) else if numV (drawV S.1) % 12 < tv μ t 5 r then (drawV S.1, i + 1, S.2.2.1 + tv μ t 6 r, S.2.2.2) else (drawV S.1, 0, S.2.2.1 + tv μ t 6 r, S.2.2.2 + 1) := by
          unfold seekF
          rw [if_neg (by omega), hrow]
        rw [eF] at ih
        refine vc_X9_seek_85 hw ht ?_
        rw [b7, hdg]
        refine ⟨rr (by omega), rr (by omega), fun c2 => ?_, fun c2 => ?_⟩
        · rw [if_pos c2] at ih
          exact vc_X9_seek_140 hw ht (ih m1 b7 (by rw [b8]; exact hz0) b9 b10 bk bf (by show (0 : Int) ≤ 0 ∧ (0 : Int) ≤ 64; omega))
        · rw [if_neg c2] at ih
          have eN : F_X10_numberOf (F_X10_drawAfter S.1 m1) m1 = numV (drawV S.1) := rfl
          rw [eN, etm]
          refine ⟨rr (by omega), ⟨hr1.1, hr8⟩, rr (by omega), rr (by omega), fun c3 => ?_, fun c3 => ?_⟩
          · rw [if_neg (by omega)] at ih
            refine vc_X9_seek_140 hw ht (ih _ ?_ ?_ ?_ ?_ (fun k hk2 => ?_) (fun z hz => ?_) (by show (0 : Int) ≤ 0 ∧ (0 : Int) ≤ 64; omega))
            · rw [ru_eq, r1_ne (by omega), b7]
            · rw [ru_eq, r1_ne (by omega), b8]; exact hz0
            · rw [ru_eq, r1_ne (by omega), b9]
            · rw [ru_eq, r1_eq, b10]
            · rw [ru_eq, r1_ne (by omega)]; exact bk k hk2
            · rw [ru_ne hz]; exact bf z hz
          · rw [if_pos (by omega)] at ih
            refine vc_X9_seek_127 hw ht (vc_X9_seek_140 hw ht (ih _ ?_ ?_ ?_ ?_ (fun k hk2 => ?_) (fun z hz => ?_) (by show 0 ≤ i + 1 ∧ i + 1 ≤ 64; omega)))
            · rw [ru_eq, r1_ne (by omega), b7]
            · rw [ru_eq, r1_eq]
            · rw [ru_eq, r1_ne (by omega), b9]
            · rw [ru_eq, r1_ne (by omega), b10]
            · rw [ru_eq, r1_ne (by omega)]; exact bk k hk2
            · rw [ru_ne hz]; exact bf z hz
    · intro m a7 a8 a9 a10 hk hf hb
      have e5c : m 180 5 = cntV (tv μ t) := by rw [hf 180 (by omega)]; exact hlr.1
      have hfin := fin _ m (by omega) (Int.le_refl _) (Or.inl rfl) a7 a8 a9 a10 hk hf
      refine vc_X9_seek_38 hw ht ?_
      rw [e5c]
      by_cases hlt : most ≤ cntV (tv μ t)
      · exact ⟨rr (by omega), rr (by omega), fun _ => hfin, fun c => absurd (show most ≤ min most (cntV (tv μ t)) by omega) c⟩
      · exact ⟨rr (by omega), rr (by omega), fun _ => hfin, fun c => ⟨rr (by omega), rr (by omega), fun _ => hfin, fun c2 => absurd (show cntV (tv μ t) ≤ min most (cntV (tv μ t)) by omega) c2⟩⟩
  refine main 0 (by omega) (by omega) _ ?_ ?_ ?_ ?_ (fun k hk => ?_) (fun z hz => ?_) (by show (0 : Int) ≤ 0 ∧ (0 : Int) ≤ 64; omega)
  · rw [ru_eq, r1_ne (by omega), ru_eq, r1_ne (by omega), ru_eq, r1_ne (by omega), ru_eq, r1_eq]
  · rw [ru_eq, r1_ne (by omega), ru_eq, r1_ne (by omega), ru_eq, r1_eq]; rfl
  · rw [ru_eq, r1_ne (by omega), ru_eq, r1_eq]; rfl
  · rw [ru_eq, r1_eq]; rfl
  · rw [ru_eq, r1_ne (by omega), ru_eq, r1_ne (by omega), ru_eq, r1_ne (by omega), ru_eq, r1_ne (by omega)]
  · rw [ru_ne hz, ru_ne hz, ru_ne hz, ru_ne hz]
theorem ct_X9_seek : Ct mX9_seek 1 23 0 0 (nrmS S_X9_seek) := by
  refine ct_vm (own := RX9) (by decide +kernel) rfl ?_ ?_
  · intro as μ Q hS
    unfold S_X9_seek at hS
    split at hS
    · exact Nat.le_of_ble_eq_true rfl
    · exact hS.elim
  · intro as μ R hS
    unfold S_X9_seek at hS
    split at hS
    · exact body_X9_seek hS.1 hS.2
    · exact hS.elim
