/-! a list with one cellar left out -/
theorem cnt_rem {s a : Int} (a0 : 0 ≤ a) (ha : hasB s a = true) {b : Int} (b0 : 0 ≤ b) : cntB (remS s a) b = cntB s b - (if a < b then 1 else 0) := by
  refine nat_ind (P := fun b => cntB (remS s a) b = cntB s b - (if a < b then 1 else 0)) ?_ (fun b b0 ih => ?_) b b0
  · rw [if_neg (by omega)]; rfl
  · rw [cntB_s b0, cntB_s b0, ih, has_rem a0 b0]
    by_cases e : b = a
    · rw [e, ha, decide_eq_false (fun q => q rfl), Bool.and_false, if_neg (show ¬ a < a by omega), if_neg (show ¬ false = true by decide), if_pos rfl, if_pos (show a < a + 1 by omega)]
      omega
    · rw [decide_eq_true e, Bool.and_true]
      by_cases l : a < b
      · rw [if_pos l, if_pos (show a < b + 1 by omega)]
        omega
      · rw [if_neg l, if_neg (show ¬ a < b + 1 by omega)]
        omega
theorem mth_rem {s i l : Int} (i0 : 0 ≤ i) (i1 : i < popc s) (l0 : 0 ≤ l) (l1 : l < popc s - 1) : mthV (remS s (mthV s i)) l = mthV s (if l < i then l else l + 1) := by
  have hi := mth_in i0 i1
  have go : ∀ j : Int, 0 ≤ j → j < popc s → j ≠ i → cntB (remS s (mthV s i)) (mthV s j) = l → mthV (remS s (mthV s i)) l = mthV s j := fun j j0 j1 ji e => by
    have hj := mth_in j0 j1
    have ne : mthV s j ≠ mthV s i := fun q => by
      have h1 := mth_cnt j0 j1
      rw [q, mth_cnt i0 i1] at h1
      omega
    have hh : hasB (remS s (mthV s i)) (mthV s j) = true := by rw [has_rem hi.1.1 hj.1.1, hj.2, decide_eq_true ne]; rfl
    rw [← e]
    exact mth_at hj.1.1 hj.1.2 hh
  by_cases c : l < i
  · rw [if_pos c]
    refine go l l0 (by omega) (by omega) ?_
    have lt := mth_lt l0 c i1
    rw [cnt_rem hi.1.1 hi.2 (mth_in l0 (by omega)).1.1, if_neg (by omega), mth_cnt l0 (by omega)]
    omega
  · rw [if_neg c]
    refine go (l + 1) (by omega) (by omega) (by omega) ?_
    have lt := mth_lt i0 (show i < l + 1 by omega) (show l + 1 < popc s by omega)
    rw [cnt_rem hi.1.1 hi.2 (mth_in (show 0 ≤ l + 1 by omega) (by omega)).1.1, if_pos lt, mth_cnt (by omega) (by omega)]
    omega
/-- behind the first i of a list -/
def posL (s i : Int) : Int := if i ≤ 0 then 0 else mthV s (i - 1) + 1
theorem posL_no {s i b : Int} (i0 : 0 ≤ i) (ip : i ≤ popc s) (b0 : posL s i ≤ b) (b8 : b < 8) (hb : i < popc s → b < mthV s i) : hasB s b = false := by
  cases h : hasB s b
  · rfl
  · exfalso
    have b1 : 0 ≤ b := by
      unfold posL at b0
      by_cases c : i ≤ 0
      · rw [if_pos c] at b0; exact b0
      · rw [if_neg c] at b0
        have := mth_in (s := s) (m := i - 1) (by omega) (by omega)
        omega
    have cb := cnt_lt_pop b1 b8 h
    have ea := mth_at b1 b8 h
    rcases (by omega : cntB s b < i ∨ cntB s b = i ∨ i < cntB s b) with q | q | q
    · unfold posL at b0
      rw [if_neg (by omega)] at b0
      by_cases e : cntB s b = i - 1
      · rw [e] at ea; omega
      · have := mth_lt cb.1 (show cntB s b < i - 1 by omega) (show i - 1 < popc s by omega)
        omega
    · have := hb (by omega)
      rw [q] at ea
      omega
    · have := mth_lt i0 q cb.2
      have := hb (by omega)
      omega
def P_X11_guard (o n k : Int) (μ : Mem) : Prop := o = 201 ∧ SOk (stM μ) ∧ r32 n ∧ r32 k
def Q_X11_guard (_ n k : Int) (μ μ' : Mem) (r : Int) : Prop := AskM μ μ' ∧ r = onT (stM μ).1 n (-1000000000000) (guardT k)
def S_X11_guard : S0t := fun as μ Q => match as with
  | [(2, x0), (0, x1), (0, x2)] => P_X11_guard x0 x1 x2 μ ∧ ∀ (μ' : Mem) (r : Int), Q_X11_guard x0 x1 x2 μ μ' r → Q μ' (some (kL r))
  | _ => False
theorem mono_X11_guard : Mono S_X11_guard := by
  intro as μ Q Q' h hS
  unfold S_X11_guard at hS ⊢
  split at hS
  · exact ⟨hS.1, fun μ' r q => h _ _ (hS.2 _ _ q)⟩
  · exact hS.elim
def iX11_guard : Inf := (kX11_guard, fTX11, pTX11, cTX11, lTX11, sTX11, [(324, 0, 1, 11, S_X11_kernels), (162, 1, 3, 0, S_X11_isIn), (225, 0, 0, 11, S_X11_lists), (433, 0, 1, 11, S_X11_takes), (306, 0, 0, 11, S_X11_searches)])
theorem ok_X11_guard : infOK iX11_guard mX11_guard RX11 6 145 := ⟨kkX11_guard, fTX11_ok, pTX11_ok _, cTX11_ok, lTX11_ok, sTX11_ok, c_cons ⟨mX11_kernels, 5, 124, ct_X11_kernels, mmX11_kernels, vvX11_kernels, lkX11_324, ⟨by decide, by decide⟩, ⟨_, _, rfl⟩, by decide, mono_X11_kernels⟩ (c_cons ⟨mX11_isIn, 0, 0, ct_X11_isIn, mmX11_isIn, stX11_isIn, lkX11_162, ⟨by decide, by decide⟩, mono_X11_isIn⟩ (c_cons ⟨mX11_lists, 1, 21, ct_X11_lists, mmX11_lists, vvX11_lists, lkX11_225, ⟨by decide, by decide⟩, ⟨_, _, rfl⟩, by decide, mono_X11_lists⟩ (c_cons ⟨mX11_takes, 1, 40, ct_X11_takes, mmX11_takes, vvX11_takes, lkX11_433, ⟨by decide, by decide⟩, ⟨_, _, rfl⟩, by decide, mono_X11_takes⟩ (c_cons ⟨mX11_searches, 4, 101, ct_X11_searches, mmX11_searches, vvX11_searches, lkX11_306, ⟨by decide, by decide⟩, ⟨_, _, rfl⟩, by decide, mono_X11_searches⟩ (c_nil)))))⟩
theorem mt_X11_guard : mtOK [] RX11 6 145 := mt_nil
abbrev V_X11_guard (R : Mem → Option AV → Prop) (pc : Nat) (lc : List (Nat × AV)) (μ : Mem) : Prop := VM mX11_guard RX11 6 145 R pc lc [] μ
set_option maxRecDepth 20000 in
theorem vc_X11_guard_0 {R : Mem → Option AV → Prop} {n k : Int} {μ : Mem} (H : P_X11_kernels 201 n μ ∧ (∀ (μ1 : Mem) (rv2 : Int), Q_X11_kernels 201 n μ μ1 rv2 → r32 rv2 ∧ ((rv2 = 0) → R μ1 (some (kL (-1000000000000)))) ∧ (¬ (rv2 = 0) → P_X11_isIn k 0 2 μ1 ∧ r32 (F_X11_isIn k 0 2 μ1) ∧ ((¬ (F_X11_isIn k 0 2 μ1) = 0) → V_X11_guard R 32 [(0, kR 201), (2, kI k), (3, kI (-1)), (4, kI (μ1 201 14)), (5, kI 0)] μ1) ∧ (¬ (¬ (F_X11_isIn k 0 2 μ1) = 0) → R μ1 (some (kL (-1000000000000))))))) : V_X11_guard R 0 [(0, kR 201), (1, kI n), (2, kI k)] μ := by
  refine vm_step2 mt_X11_guard ok_X11_guard [(32, [0, 2, 3, 4, 5]), (43, [0, 2, 3, 4, 5]), (58, [0, 2, 3, 4, 5, 6, 7]), (81, [0, 2, 3, 4, 5, 6, 7]), (97, [0, 2, 3, 4, 5, 6]), (102, [0, 2, 3, 4, 5, 6]), (107, [0, 2, 3, 4, 5, 6])] 1000 ?_
  show isC 201 11 ∧ P_X11_kernels 201 n μ ∧ (∀ (μ1 : Mem) (rv2 : Int), Q_X11_kernels 201 n μ μ1 rv2 → r32 rv2 ∧ ((rv2 = 0) → R μ1 (some (kL (-1000000000000)))) ∧ (¬ (rv2 = 0) → P_X11_isIn k 0 2 μ1 ∧ r32 (F_X11_isIn k 0 2 μ1) ∧ ((¬ (F_X11_isIn k 0 2 μ1) = 0) → isC 201 11 ∧ V_X11_guard R 32 [(0, kR 201), (2, kI k), (3, kI (-1)), (4, kI (μ1 201 14)), (5, kI 0)] μ1) ∧ (¬ (¬ (F_X11_isIn k 0 2 μ1) = 0) → R μ1 (some (kL (-1000000000000))))))
  exact ⟨c_201, H.1, fun μ1 rv2 hq3 => ⟨(H.2 μ1 rv2 hq3).1, fun hc5 => ((H.2 μ1 rv2 hq3).2.1 hc5), fun hc5 => ⟨((H.2 μ1 rv2 hq3).2.2 hc5).1, ⟨((H.2 μ1 rv2 hq3).2.2 hc5).2.1, fun hc4 => ⟨c_201, (((H.2 μ1 rv2 hq3).2.2 hc5).2.2.1 hc4)⟩, fun hc4 => (((H.2 μ1 rv2 hq3).2.2 hc5).2.2.2 hc4)⟩⟩⟩⟩
set_option maxRecDepth 20000 in
theorem vc_X11_guard_32 {R : Mem → Option AV → Prop} {k best m i : Int} {μ : Mem} (H : r32 i ∧ r32 m ∧ ((m ≤ i) → r32 k ∧ ((¬ k = 0) → r32 k ∧ ((¬ k = (1 : Int)) → R μ (some (kL (μ 201 48)))) ∧ (¬ (¬ k = (1 : Int)) → R μ (some (kL (μ 201 47))))) ∧ (¬ (¬ k = 0) → r32 best ∧ R μ (some (kL best)))) ∧ (¬ (m ≤ i) → P_X11_lists 201 μ ∧ (∀ (μ8 : Mem), Q_X11_lists 201 μ μ8 → V_X11_guard R 43 [(0, kR 201), (2, kI k), (3, kI best), (4, kI m), (5, kI i)] μ8))) : V_X11_guard R 32 [(0, kR 201), (2, kI k), (3, kI best), (4, kI m), (5, kI i)] μ := by
  refine vm_step2 mt_X11_guard ok_X11_guard [(32, [0, 2, 3, 4, 5]), (43, [0, 2, 3, 4, 5]), (58, [0, 2, 3, 4, 5, 6, 7]), (81, [0, 2, 3, 4, 5, 6, 7]), (97, [0, 2, 3, 4, 5, 6]), (102, [0, 2, 3, 4, 5, 6]), (107, [0, 2, 3, 4, 5, 6])] 1000 ?_
  show (r32 i ∧ r32 m) ∧ ((m ≤ i) → r32 k ∧ ((¬ k = 0) → (r32 k ∧ r32 (1 : Int)) ∧ ((¬ k = (1 : Int)) → isC 201 11 ∧ R μ (some (kL (μ 201 48)))) ∧ (¬ (¬ k = (1 : Int)) → isC 201 11 ∧ R μ (some (kL (μ 201 47))))) ∧ (¬ (¬ k = 0) → r32 best ∧ R μ (some (kL best)))) ∧ (¬ (m ≤ i) → isC 201 11 ∧ P_X11_lists 201 μ ∧ (∀ (μ8 : Mem), Q_X11_lists 201 μ μ8 → V_X11_guard R 43 [(0, kR 201), (2, kI k), (3, kI best), (4, kI m), (5, kI i)] μ8))
  exact ⟨⟨H.1, H.2.1⟩, fun hc11 => ⟨(H.2.2.1 hc11).1, fun hc7 => ⟨⟨((H.2.2.1 hc11).2.1 hc7).1, by unfold r32; omega⟩, fun hc6 => ⟨c_201, (((H.2.2.1 hc11).2.1 hc7).2.1 hc6)⟩, fun hc6 => ⟨c_201, (((H.2.2.1 hc11).2.1 hc7).2.2 hc6)⟩⟩, fun hc7 => ⟨((H.2.2.1 hc11).2.2 hc7).1, ((H.2.2.1 hc11).2.2 hc7).2⟩⟩, fun hc11 => ⟨c_201, (H.2.2.2 hc11).1, fun μ8 hq10 => ((H.2.2.2 hc11).2 μ8 hq10)⟩⟩
set_option maxRecDepth 20000 in
theorem vc_X11_guard_43 {R : Mem → Option AV → Prop} {k best m i : Int} {μ : Mem} (H : (0 ≤ i ∧ i < 7) ∧ V_X11_guard R 58 [(0, kR 201), (2, kI k), (3, kI best), (4, kI m), (5, kI i), (6, kI (μ 205 i)), (7, kI (i + 1))] μ) : V_X11_guard R 43 [(0, kR 201), (2, kI k), (3, kI best), (4, kI m), (5, kI i)] μ := by
  refine vm_step2 mt_X11_guard ok_X11_guard [(32, [0, 2, 3, 4, 5]), (43, [0, 2, 3, 4, 5]), (58, [0, 2, 3, 4, 5, 6, 7]), (81, [0, 2, 3, 4, 5, 6, 7]), (97, [0, 2, 3, 4, 5, 6]), (102, [0, 2, 3, 4, 5, 6]), (107, [0, 2, 3, 4, 5, 6])] 1000 ?_
  show isC 201 11 ∧ inA 205 0 i ∧ V_X11_guard R 58 [(0, kR 201), (2, kI k), (3, kI best), (4, kI m), (5, kI i), (6, kI (μ 205 i)), (7, kI (i + 1))] μ
  exact ⟨c_201, ⟨isArr.in a_205 H.1.1 H.1.2, H.2⟩⟩
set_option maxRecDepth 20000 in
theorem vc_X11_guard_58 {R : Mem → Option AV → Prop} {k best m i sh j : Int} {μ : Mem} (H : r32 j ∧ r32 m ∧ ((m ≤ j) → V_X11_guard R 97 [(0, kR 201), (2, kI k), (3, kI best), (4, kI m), (5, kI i), (6, kI sh)] (updm μ 201 14 ((μ 201 14) - 1))) ∧ (¬ (m ≤ j) → (0 ≤ j ∧ j < 7) ∧ (0 ≤ (j - 1) ∧ (j - 1) < 7) ∧ V_X11_guard R 81 [(0, kR 201), (2, kI k), (3, kI best), (4, kI m), (5, kI i), (6, kI sh), (7, kI j)] (updm μ 205 (j - 1) (μ 205 j)))) : V_X11_guard R 58 [(0, kR 201), (2, kI k), (3, kI best), (4, kI m), (5, kI i), (6, kI sh), (7, kI j)] μ := by
  refine vm_step2 mt_X11_guard ok_X11_guard [(32, [0, 2, 3, 4, 5]), (43, [0, 2, 3, 4, 5]), (58, [0, 2, 3, 4, 5, 6, 7]), (81, [0, 2, 3, 4, 5, 6, 7]), (97, [0, 2, 3, 4, 5, 6]), (102, [0, 2, 3, 4, 5, 6]), (107, [0, 2, 3, 4, 5, 6])] 1000 ?_
  show (r32 j ∧ r32 m) ∧ ((m ≤ j) → isC 201 11 ∧ isC 201 11 ∧ 0 = 0 ∧ True ∧ V_X11_guard R 97 [(0, kR 201), (2, kI k), (3, kI best), (4, kI m), (5, kI i), (6, kI sh)] (updm μ 201 14 ((μ 201 14) - 1))) ∧ (¬ (m ≤ j) → isC 201 11 ∧ isC 201 11 ∧ inA 205 0 j ∧ inA 205 0 (j - 1) ∧ V_X11_guard R 81 [(0, kR 201), (2, kI k), (3, kI best), (4, kI m), (5, kI i), (6, kI sh), (7, kI j)] (updm μ 205 (j - 1) (μ 205 j)))
  exact ⟨⟨H.1, H.2.1⟩, fun hc12 => ⟨c_201, ⟨c_201, rfl, trivial, (H.2.2.1 hc12)⟩⟩, fun hc12 => ⟨c_201, ⟨c_201, ⟨isArr.in a_205 (H.2.2.2 hc12).1.1 (H.2.2.2 hc12).1.2, ⟨isArr.in a_205 (H.2.2.2 hc12).2.1.1 (H.2.2.2 hc12).2.1.2, (H.2.2.2 hc12).2.2⟩⟩⟩⟩⟩
set_option maxRecDepth 20000 in
theorem vc_X11_guard_81 {R : Mem → Option AV → Prop} {k best m i sh j : Int} {μ : Mem} (H : V_X11_guard R 58 [(0, kR 201), (2, kI k), (3, kI best), (4, kI m), (5, kI i), (6, kI sh), (7, kI (j + 1))] μ) : V_X11_guard R 81 [(0, kR 201), (2, kI k), (3, kI best), (4, kI m), (5, kI i), (6, kI sh), (7, kI j)] μ := by
  refine vm_step2 mt_X11_guard ok_X11_guard [(32, [0, 2, 3, 4, 5]), (43, [0, 2, 3, 4, 5]), (58, [0, 2, 3, 4, 5, 6, 7]), (81, [0, 2, 3, 4, 5, 6, 7]), (97, [0, 2, 3, 4, 5, 6]), (102, [0, 2, 3, 4, 5, 6]), (107, [0, 2, 3, 4, 5, 6])] 1000 ?_
  show V_X11_guard R 58 [(0, kR 201), (2, kI k), (3, kI best), (4, kI m), (5, kI i), (6, kI sh), (7, kI (j + 1))] μ
  exact H
set_option maxRecDepth 20000 in
theorem vc_X11_guard_97 {R : Mem → Option AV → Prop} {k best m i sh : Int} {μ : Mem} (H : V_X11_guard R 102 [(0, kR 201), (2, kI k), (3, kI best), (4, kI m), (5, kI i), (6, kI sh)] (updm μ 201 27 0)) : V_X11_guard R 97 [(0, kR 201), (2, kI k), (3, kI best), (4, kI m), (5, kI i), (6, kI sh)] μ := by
  refine vm_step2 mt_X11_guard ok_X11_guard [(32, [0, 2, 3, 4, 5]), (43, [0, 2, 3, 4, 5]), (58, [0, 2, 3, 4, 5, 6, 7]), (81, [0, 2, 3, 4, 5, 6, 7]), (97, [0, 2, 3, 4, 5, 6]), (102, [0, 2, 3, 4, 5, 6]), (107, [0, 2, 3, 4, 5, 6])] 1000 ?_
  show isC 201 11 ∧ 1 = 1 ∧ True ∧ V_X11_guard R 102 [(0, kR 201), (2, kI k), (3, kI best), (4, kI m), (5, kI i), (6, kI sh)] (updm μ 201 27 0)
  exact ⟨c_201, rfl, trivial, H⟩
set_option maxRecDepth 20000 in
theorem vc_X11_guard_102 {R : Mem → Option AV → Prop} {k best m i sh : Int} {μ : Mem} (H : V_X11_guard R 107 [(0, kR 201), (2, kI k), (3, kI best), (4, kI m), (5, kI i), (6, kI sh)] (updm μ 201 28 1)) : V_X11_guard R 102 [(0, kR 201), (2, kI k), (3, kI best), (4, kI m), (5, kI i), (6, kI sh)] μ := by
  refine vm_step2 mt_X11_guard ok_X11_guard [(32, [0, 2, 3, 4, 5]), (43, [0, 2, 3, 4, 5]), (58, [0, 2, 3, 4, 5, 6, 7]), (81, [0, 2, 3, 4, 5, 6, 7]), (97, [0, 2, 3, 4, 5, 6]), (102, [0, 2, 3, 4, 5, 6]), (107, [0, 2, 3, 4, 5, 6])] 1000 ?_
  show isC 201 11 ∧ 1 = 1 ∧ True ∧ V_X11_guard R 107 [(0, kR 201), (2, kI k), (3, kI best), (4, kI m), (5, kI i), (6, kI sh)] (updm μ 201 28 1)
  exact ⟨c_201, rfl, trivial, H⟩
set_option maxRecDepth 20000 in
theorem vc_X11_guard_107 {R : Mem → Option AV → Prop} {k best m i sh : Int} {μ : Mem} (H : r32 (μ 201 14) ∧ (((μ 201 14) = 0) → r32 best ∧ ((0 ≤ best) → P_X11_takes 201 0 μ ∧ (∀ (μ13 : Mem) (rv14 : Int), Q_X11_takes 201 0 μ μ13 rv14 → r32 rv14 ∧ ((rv14 = 0) → V_X11_guard R 32 [(0, kR 201), (2, kI k), (3, kI best), (4, kI m), (5, kI (i + 1))] μ13) ∧ (¬ (rv14 = 0) → V_X11_guard R 32 [(0, kR 201), (2, kI k), (3, kI sh), (4, kI m), (5, kI (i + 1))] μ13))) ∧ (¬ (0 ≤ best) → P_X11_takes 201 1 μ ∧ (∀ (μ17 : Mem) (rv18 : Int), Q_X11_takes 201 1 μ μ17 rv18 → r32 rv18 ∧ ((rv18 = 0) → V_X11_guard R 32 [(0, kR 201), (2, kI k), (3, kI best), (4, kI m), (5, kI (i + 1))] μ17) ∧ (¬ (rv18 = 0) → V_X11_guard R 32 [(0, kR 201), (2, kI k), (3, kI sh), (4, kI m), (5, kI (i + 1))] μ17)))) ∧ (¬ ((μ 201 14) = 0) → P_X11_searches 201 μ ∧ (∀ (μ22 : Mem) (rv23 : Int), Q_X11_searches 201 μ μ22 rv23 → r32 rv23 ∧ ((rv23 = 0) → r32 best ∧ ((0 ≤ best) → P_X11_takes 201 0 μ22 ∧ (∀ (μ25 : Mem) (rv26 : Int), Q_X11_takes 201 0 μ22 μ25 rv26 → r32 rv26 ∧ ((rv26 = 0) → V_X11_guard R 32 [(0, kR 201), (2, kI k), (3, kI best), (4, kI m), (5, kI (i + 1))] μ25) ∧ (¬ (rv26 = 0) → V_X11_guard R 32 [(0, kR 201), (2, kI k), (3, kI sh), (4, kI m), (5, kI (i + 1))] μ25))) ∧ (¬ (0 ≤ best) → P_X11_takes 201 1 μ22 ∧ (∀ (μ29 : Mem) (rv30 : Int), Q_X11_takes 201 1 μ22 μ29 rv30 → r32 rv30 ∧ ((rv30 = 0) → V_X11_guard R 32 [(0, kR 201), (2, kI k), (3, kI best), (4, kI m), (5, kI (i + 1))] μ29) ∧ (¬ (rv30 = 0) → V_X11_guard R 32 [(0, kR 201), (2, kI k), (3, kI sh), (4, kI m), (5, kI (i + 1))] μ29)))) ∧ (¬ (rv23 = 0) → r32 best ∧ ((0 ≤ best) → P_X11_takes 201 0 μ22 ∧ (∀ (μ34 : Mem) (rv35 : Int), Q_X11_takes 201 0 μ22 μ34 rv35 → r32 rv35 ∧ ((rv35 = 0) → V_X11_guard R 32 [(0, kR 201), (2, kI k), (3, kI best), (4, kI m), (5, kI (i + 1))] μ34) ∧ (¬ (rv35 = 0) → V_X11_guard R 32 [(0, kR 201), (2, kI k), (3, kI sh), (4, kI m), (5, kI (i + 1))] μ34))) ∧ (¬ (0 ≤ best) → P_X11_takes 201 1 μ22 ∧ (∀ (μ38 : Mem) (rv39 : Int), Q_X11_takes 201 1 μ22 μ38 rv39 → r32 rv39 ∧ ((rv39 = 0) → V_X11_guard R 32 [(0, kR 201), (2, kI k), (3, kI best), (4, kI m), (5, kI (i + 1))] μ38) ∧ (¬ (rv39 = 0) → V_X11_guard R 32 [(0, kR 201), (2, kI k), (3, kI sh), (4, kI m), (5, kI (i + 1))] μ38))))))) : V_X11_guard R 107 [(0, kR 201), (2, kI k), (3, kI best), (4, kI m), (5, kI i), (6, kI sh)] μ := by
  refine vm_step2 mt_X11_guard ok_X11_guard [(32, [0, 2, 3, 4, 5]), (43, [0, 2, 3, 4, 5]), (58, [0, 2, 3, 4, 5, 6, 7]), (81, [0, 2, 3, 4, 5, 6, 7]), (97, [0, 2, 3, 4, 5, 6]), (102, [0, 2, 3, 4, 5, 6]), (107, [0, 2, 3, 4, 5, 6])] 1000 ?_
  show isC 201 11 ∧ r32 (μ 201 14) ∧ (((μ 201 14) = 0) → r32 best ∧ ((0 ≤ best) → isC 201 11 ∧ P_X11_takes 201 0 μ ∧ (∀ (μ13 : Mem) (rv14 : Int), Q_X11_takes 201 0 μ μ13 rv14 → r32 rv14 ∧ ((rv14 = 0) → V_X11_guard R 32 [(0, kR 201), (2, kI k), (3, kI best), (4, kI m), (5, kI (i + 1))] μ13) ∧ (¬ (rv14 = 0) → V_X11_guard R 32 [(0, kR 201), (2, kI k), (3, kI sh), (4, kI m), (5, kI (i + 1))] μ13))) ∧ (¬ (0 ≤ best) → isC 201 11 ∧ P_X11_takes 201 1 μ ∧ (∀ (μ17 : Mem) (rv18 : Int), Q_X11_takes 201 1 μ μ17 rv18 → r32 rv18 ∧ ((rv18 = 0) → V_X11_guard R 32 [(0, kR 201), (2, kI k), (3, kI best), (4, kI m), (5, kI (i + 1))] μ17) ∧ (¬ (rv18 = 0) → V_X11_guard R 32 [(0, kR 201), (2, kI k), (3, kI sh), (4, kI m), (5, kI (i + 1))] μ17)))) ∧ (¬ ((μ 201 14) = 0) → isC 201 11 ∧ P_X11_searches 201 μ ∧ (∀ (μ22 : Mem) (rv23 : Int), Q_X11_searches 201 μ μ22 rv23 → r32 rv23 ∧ ((rv23 = 0) → r32 best ∧ ((0 ≤ best) → isC 201 11 ∧ P_X11_takes 201 0 μ22 ∧ (∀ (μ25 : Mem) (rv26 : Int), Q_X11_takes 201 0 μ22 μ25 rv26 → r32 rv26 ∧ ((rv26 = 0) → V_X11_guard R 32 [(0, kR 201), (2, kI k), (3, kI best), (4, kI m), (5, kI (i + 1))] μ25) ∧ (¬ (rv26 = 0) → V_X11_guard R 32 [(0, kR 201), (2, kI k), (3, kI sh), (4, kI m), (5, kI (i + 1))] μ25))) ∧ (¬ (0 ≤ best) → isC 201 11 ∧ P_X11_takes 201 1 μ22 ∧ (∀ (μ29 : Mem) (rv30 : Int), Q_X11_takes 201 1 μ22 μ29 rv30 → r32 rv30 ∧ ((rv30 = 0) → V_X11_guard R 32 [(0, kR 201), (2, kI k), (3, kI best), (4, kI m), (5, kI (i + 1))] μ29) ∧ (¬ (rv30 = 0) → V_X11_guard R 32 [(0, kR 201), (2, kI k), (3, kI sh), (4, kI m), (5, kI (i + 1))] μ29)))) ∧ (¬ (rv23 = 0) → r32 best ∧ ((0 ≤ best) → isC 201 11 ∧ P_X11_takes 201 0 μ22 ∧ (∀ (μ34 : Mem) (rv35 : Int), Q_X11_takes 201 0 μ22 μ34 rv35 → r32 rv35 ∧ ((rv35 = 0) → V_X11_guard R 32 [(0, kR 201), (2, kI k), (3, kI best), (4, kI m), (5, kI (i + 1))] μ34) ∧ (¬ (rv35 = 0) → V_X11_guard R 32 [(0, kR 201), (2, kI k), (3, kI sh), (4, kI m), (5, kI (i + 1))] μ34))) ∧ (¬ (0 ≤ best) → isC 201 11 ∧ P_X11_takes 201 1 μ22 ∧ (∀ (μ38 : Mem) (rv39 : Int), Q_X11_takes 201 1 μ22 μ38 rv39 → r32 rv39 ∧ ((rv39 = 0) → V_X11_guard R 32 [(0, kR 201), (2, kI k), (3, kI best), (4, kI m), (5, kI (i + 1))] μ38) ∧ (¬ (rv39 = 0) → V_X11_guard R 32 [(0, kR 201), (2, kI k), (3, kI sh), (4, kI m), (5, kI (i + 1))] μ38))))))
  exact ⟨c_201, ⟨H.1, fun hc44 => ⟨(H.2.1 hc44).1, fun hc21 => ⟨c_201, ((H.2.1 hc44).2.1 hc21).1, fun μ13 rv14 hq15 => ⟨(((H.2.1 hc44).2.1 hc21).2 μ13 rv14 hq15).1, fun hc16 => ((((H.2.1 hc44).2.1 hc21).2 μ13 rv14 hq15).2.1 hc16), fun hc16 => ((((H.2.1 hc44).2.1 hc21).2 μ13 rv14 hq15).2.2 hc16)⟩⟩, fun hc21 => ⟨c_201, ((H.2.1 hc44).2.2 hc21).1, fun μ17 rv18 hq19 => ⟨(((H.2.1 hc44).2.2 hc21).2 μ17 rv18 hq19).1, fun hc20 => ((((H.2.1 hc44).2.2 hc21).2 μ17 rv18 hq19).2.1 hc20), fun hc20 => ((((H.2.1 hc44).2.2 hc21).2 μ17 rv18 hq19).2.2 hc20)⟩⟩⟩, fun hc44 => ⟨c_201, (H.2.2 hc44).1, fun μ22 rv23 hq24 => ⟨((H.2.2 hc44).2 μ22 rv23 hq24).1, fun hc43 => ⟨(((H.2.2 hc44).2 μ22 rv23 hq24).2.1 hc43).1, fun hc33 => ⟨c_201, ((((H.2.2 hc44).2 μ22 rv23 hq24).2.1 hc43).2.1 hc33).1, fun μ25 rv26 hq27 => ⟨(((((H.2.2 hc44).2 μ22 rv23 hq24).2.1 hc43).2.1 hc33).2 μ25 rv26 hq27).1, fun hc28 => ((((((H.2.2 hc44).2 μ22 rv23 hq24).2.1 hc43).2.1 hc33).2 μ25 rv26 hq27).2.1 hc28), fun hc28 => ((((((H.2.2 hc44).2 μ22 rv23 hq24).2.1 hc43).2.1 hc33).2 μ25 rv26 hq27).2.2 hc28)⟩⟩, fun hc33 => ⟨c_201, ((((H.2.2 hc44).2 μ22 rv23 hq24).2.1 hc43).2.2 hc33).1, fun μ29 rv30 hq31 => ⟨(((((H.2.2 hc44).2 μ22 rv23 hq24).2.1 hc43).2.2 hc33).2 μ29 rv30 hq31).1, fun hc32 => ((((((H.2.2 hc44).2 μ22 rv23 hq24).2.1 hc43).2.2 hc33).2 μ29 rv30 hq31).2.1 hc32), fun hc32 => ((((((H.2.2 hc44).2 μ22 rv23 hq24).2.1 hc43).2.2 hc33).2 μ29 rv30 hq31).2.2 hc32)⟩⟩⟩, fun hc43 => ⟨(((H.2.2 hc44).2 μ22 rv23 hq24).2.2 hc43).1, fun hc42 => ⟨c_201, ((((H.2.2 hc44).2 μ22 rv23 hq24).2.2 hc43).2.1 hc42).1, fun μ34 rv35 hq36 => ⟨(((((H.2.2 hc44).2 μ22 rv23 hq24).2.2 hc43).2.1 hc42).2 μ34 rv35 hq36).1, fun hc37 => ((((((H.2.2 hc44).2 μ22 rv23 hq24).2.2 hc43).2.1 hc42).2 μ34 rv35 hq36).2.1 hc37), fun hc37 => ((((((H.2.2 hc44).2 μ22 rv23 hq24).2.2 hc43).2.1 hc42).2 μ34 rv35 hq36).2.2 hc37)⟩⟩, fun hc42 => ⟨c_201, ((((H.2.2 hc44).2 μ22 rv23 hq24).2.2 hc43).2.2 hc42).1, fun μ38 rv39 hq40 => ⟨(((((H.2.2 hc44).2 μ22 rv23 hq24).2.2 hc43).2.2 hc42).2 μ38 rv39 hq40).1, fun hc41 => ((((((H.2.2 hc44).2 μ22 rv23 hq24).2.2 hc43).2.2 hc42).2 μ38 rv39 hq40).2.1 hc41), fun hc41 => ((((((H.2.2 hc44).2 μ22 rv23 hq24).2.2 hc43).2.2 hc42).2 μ38 rv39 hq40).2.2 hc41)⟩⟩⟩⟩⟩⟩⟩
theorem body_X11_guard {o n k : Int} {μ : Mem} {R : Mem → Option AV → Prop} (h : P_X11_guard o n k μ) (hR : ∀ (μ' : Mem) (r : Int), Q_X11_guard o n k μ μ' r → R μ' (some (kL r))) : V_X11_guard R 0 [(0, kR o), (1, kI n), (2, kI k)] μ := by
  obtain ⟨rfl, hs, r_n, r_k⟩ := h
  refine vc_X11_guard_0 ⟨⟨rfl, hs, r_n⟩, fun m rv q => ?_⟩
  obtain ⟨q1, q3, q4⟩ := q
  have ask : AskM μ m := fun z hz => q1 z (by omega) (by omega) (by omega) (by omega)
  by_cases c : 0 ≤ n ∧ n < μ 202 0
  · obtain ⟨hl, hv, hcase⟩ := q4 c
    have hb := hl.1
    have ok := hb.v
    have hp := hb.p
    have hpe := hb.2.1
    have a0 := AskM_0 m
    have fin : ∀ (m' : Mem) (x : Int), AskM m m' → x = (guardT k) (vm m) → R m' (some (kL x)) := fun m' x ha hx => hR m' x ⟨ask.trans ha, by rw [hx, onM_yes c, ← hv]⟩
    unfold guardT at fin
    rcases hcase with ⟨cg, rfl⟩ | ⟨cg, rfl, hg, hk, hcp, hrp⟩
    · exact ⟨rr (by omega), fun _ => fin m _ a0 (if_neg (fun q => cg q.1)).symm, fun q => absurd rfl q⟩
    · refine ⟨rr (by omega), fun q => absurd q (by omega), fun _ => ?_⟩
      have vok : VOk (vm m) := hb.2.2
      have hj := vok.2.1
      have ik := isIn_r (x := k) (lo := 0) (hi := 2) (μ := m)
      obtain ⟨s, es⟩ : ∃ s : Int, s = awayV (vm m) := ⟨_, rfl⟩
      obtain ⟨N, eN⟩ : ∃ N : Int, N = popc s := ⟨_, rfl⟩
      have hl0 := hl
      obtain ⟨_, h206, h14, h205⟩ := hl0
      unfold canG at cg
      rw [← es] at h14 h205 cg
      rw [← eN] at h14 h205 cg
      have sb : 0 ≤ s ∧ s < 256 := by rw [es]; exact away_bd ok
      have hin : ∀ a : Int, 0 ≤ a → a < 8 → hasB s a = true → a < vm m 0 0 := fun a a0 a1 h => away_in ok a a0 a1 (by rw [← es]; exact h)
      have hM : ∀ i : Int, 0 ≤ i → i < N → (0 ≤ mthV s i ∧ mthV s i < 8) ∧ hasB s (mthV s i) = true := fun i i0 i1 => mth_in i0 (by omega)
      have shb : ∀ a : Int, 0 ≤ a → a < 8 → hasB s a = true → (0 ≤ (shF (vm m) a).1 ∧ (shF (vm m) a).1 ≤ 2360279040000) ∧ (1 ≤ (shF (vm m) a).2 ∧ (shF (vm m) a).2 ≤ 4214784000) := fun a a0 a1 h => shF_bd ok hj (by rw [← es]; omega) a0 a1 (by rw [← es]; exact h)
      refine ⟨⟨r_k, rr (by omega), rr (by omega)⟩, rr (by omega), fun d => ?_, fun d => fin m _ a0 (if_neg (fun q => d (isIn_1.mpr q.2))).symm⟩
      have dk := isIn_1.mp d
      rw [if_pos ⟨by unfold canG; rw [← es, ← eN]; exact cg, dk⟩] at fin
      have esh : shutV (vm m) (vm m 0 0) = mnR (hasB s) (shF (vm m)) (vm m 0 0) := by rw [es]; rfl
      rw [esh] at fin
      -- what is held
      obtain ⟨St, hSt⟩ : ∃ St : (Int × Int) × Int → Int → Mem → Prop, ∀ M best x, St M best x = ((M.2 < 0 ∧ best = -1) ∨ ((0 ≤ M.2 ∧ M.2 < 8) ∧ best = M.2 ∧ (x 201 47 = M.1.1 ∧ x 201 48 = M.1.2) ∧ (0 ≤ M.1.1 ∧ M.1.1 ≤ 2360279040000) ∧ 1 ≤ M.1.2 ∧ M.1.2 ≤ 4214784000)) := ⟨_, fun _ _ _ => rfl⟩
      obtain ⟨Fr, hFr⟩ : ∃ Fr : Mem → Prop, ∀ x, Fr x = ((∀ z : Int, z ≠ 201 → z ≠ 205 → (z < 209 ∨ 214 < z) → x z = m z) ∧ x 201 12 = m 201 12 ∧ x 201 13 = m 201 13) := ⟨_, fun _ => rfl⟩
      have frB : ∀ x, Fr x → MB x ∧ vm x = vm m ∧ x 206 = m 206 ∧ AskM m x := fun x hx => by
        rw [hFr] at hx
        obtain ⟨mb, evx⟩ := MB_frame hb (hx.1 202 (by omega) (by omega) (by omega)) hx.2.1 hx.2.2
        exact ⟨mb, evx, hx.1 206 (by omega) (by omega) (by omega), fun z hz => hx.1 z (by omega) (by omega) (by omega)⟩
      have key := up_ind (P := fun i => ∀ (best : Int) (x : Mem), Fr x → St (mnR (hasB s) (shF (vm m)) (posL s i)) best x → V_X11_guard R 32 [(0, kR 201), (2, kI k), (3, kI best), (4, kI N), (5, kI i)] x) (lo := 0) (hi := N) ?_ ?_
      · rw [h14]
        refine key 0 (by omega) (by omega) (-1) m (by rw [hFr]; exact ⟨fun _ _ _ _ => rfl, rfl, rfl⟩) ?_
        rw [hSt]
        exact Or.inl ⟨by show (-1 : Int) < 0; omega, rfl⟩
      · intro i i0 i1 ih best x hx hst
        obtain ⟨mbx, evx, x206, akx⟩ := frB x hx
        have hi := hM i i0 i1
        obtain ⟨a, ea⟩ : ∃ a : Int, a = mthV s i := ⟨_, rfl⟩
        rw [← ea] at hi
        refine vc_X11_guard_32 ⟨rr (by omega), rr (by omega), fun q => absurd q (by omega), fun _ => ⟨⟨rfl, mbx⟩, fun x8 q8 => ?_⟩⟩
        obtain ⟨⟨l14, l205⟩, lf, lz⟩ := q8
        rw [evx, ← es, ← eN] at l14 l205
        have hx8 : Fr x8 := by
          rw [hFr] at hx ⊢
          exact ⟨fun z z0 z1 z2 => by rw [lz z z0 z1, hx.1 z z0 z1 z2], by rw [lf 12 (by decide), hx.2.1], by rw [lf 13 (by decide), hx.2.2]⟩
        have e47 : x8 201 47 = x 201 47 := lf 47 (by decide)
        have e48 : x8 201 48 = x 201 48 := lf 48 (by decide)
        -- the step behind the numbers
        have ps : mnR (hasB s) (shF (vm m)) a = mnR (hasB s) (shF (vm m)) (posL s i) := by
          have pl : 0 ≤ posL s i ∧ posL s i ≤ a := by
            unfold posL
            by_cases c : i ≤ 0
            · rw [if_pos c]; omega
            · rw [if_neg c]
              have h1 := hM (i - 1) (by omega) (by omega)
              have h2 := mth_lt (s := s) (show 0 ≤ i - 1 by omega) (show i - 1 < i by omega) (by omega)
              omega
          exact mnR_skip pl.1 pl.2 (fun b b0 b1 => posL_no i0 (by omega) b0 (by omega) (fun _ => by omega))
        have pn : posL s (i + 1) = a + 1 := by
          unfold posL
          rw [if_neg (by omega), show i + 1 - 1 = i by omega, ← ea]
        have st1 := mnR_s (q := hasB s) (f := shF (vm m)) (n := a) hi.1.1
        rw [ps, ← pn] at st1
        have ih' := ih
        rw [st1] at ih'
        obtain ⟨M, eM⟩ : ∃ M, M = mnR (hasB s) (shF (vm m)) (posL s i) := ⟨_, rfl⟩
        rw [← eM] at hst ih'
        have bb : -1 ≤ best ∧ best < 8 := by
          rw [hSt] at hst
          rcases hst with h | h <;> omega
        have sha := shb a hi.1.1 hi.1.2 hi.2
        -- what takes does with them
        have tk : ∀ y : Mem, Fr y → y 201 47 = x 201 47 → y 201 48 = x 201 48 → y 201 27 = (shF (vm m) a).1 → y 201 28 = (shF (vm m) a).2 → r32 best ∧ ((0 ≤ best) → P_X11_takes 201 0 y ∧ (∀ (μ13 : Mem) (rv14 : Int), Q_X11_takes 201 0 y μ13 rv14 → r32 rv14 ∧ ((rv14 = 0) → V_X11_guard R 32 [(0, kR 201), (2, kI k), (3, kI best), (4, kI N), (5, kI (i + 1))] μ13) ∧ (¬ (rv14 = 0) → V_X11_guard R 32 [(0, kR 201), (2, kI k), (3, kI a), (4, kI N), (5, kI (i + 1))] μ13))) ∧ (¬ (0 ≤ best) → P_X11_takes 201 1 y ∧ (∀ (μ17 : Mem) (rv18 : Int), Q_X11_takes 201 1 y μ17 rv18 → r32 rv18 ∧ ((rv18 = 0) → V_X11_guard R 32 [(0, kR 201), (2, kI k), (3, kI best), (4, kI N), (5, kI (i + 1))] μ17) ∧ (¬ (rv18 = 0) → V_X11_guard R 32 [(0, kR 201), (2, kI k), (3, kI a), (4, kI N), (5, kI (i + 1))] μ17))) := by
          intro y hy y47 y48 y27 y28
          have fy : ∀ y' : Mem, (∀ g : Int, g ≠ 47 → g ≠ 48 → y' 201 g = y 201 g) → (∀ z : Int, z ≠ 201 → y' z = y z) → Fr y' := fun y' g1 g2 => by
            rw [hFr] at hy ⊢
            exact ⟨fun z z0 z1 z2 => by rw [g2 z z0, hy.1 z z0 z1 z2], by rw [g1 12 (by omega) (by omega), hy.2.1], by rw [g1 13 (by omega) (by omega), hy.2.2]⟩
          have yes : ∀ y' : Mem, (M.2 < 0 ∨ (shF (vm m) a).1 * M.1.2 < M.1.1 * (shF (vm m) a).2) → y' 201 47 = (shF (vm m) a).1 → y' 201 48 = (shF (vm m) a).2 → Fr y' → V_X11_guard R 32 [(0, kR 201), (2, kI k), (3, kI a), (4, kI N), (5, kI (i + 1))] y' := fun y' hc h1 h2 hf => by
            refine ih' a y' hf ?_
            rw [if_pos ⟨hi.2, hc⟩, hSt]
            exact Or.inr ⟨hi.1, rfl, ⟨h1, h2⟩, sha⟩
          rw [hSt] at hst
          refine ⟨rr (by omega), fun c0 => ⟨⟨rfl, Or.inl rfl, ?_, ?_, fun _ => ?_⟩, fun y' rv q => ?_⟩, fun c0 => ⟨⟨rfl, Or.inr rfl, ?_, ?_, fun q => absurd q (by omega)⟩, fun y' rv q => ?_⟩⟩
          · rw [y27]; omega
          · rw [y28]; omega
          · rcases hst with h | ⟨h1, h2, h3, h4, h5⟩
            · omega
            · rw [y47, y48, h3.1, h3.2]; omega
          · rcases hst with h | ⟨h1, h2, h3, h4, h5⟩
            · omega
            · obtain ⟨q, qf, qz⟩ := q
              rw [y27, y28, y47, y48, h3.1, h3.2] at q
              rcases q with ⟨e, hc, x1, x2⟩ | ⟨e, _, hc, x1, x2⟩
              · subst e
                exact ⟨rr (by omega), fun w => absurd w (by omega), fun _ => yes y' (Or.inr (by rcases hc with w | w; exact absurd w (by omega); exact w)) x1 x2 (fy y' qf qz)⟩
              · subst e
                refine ⟨rr (by omega), fun _ => ih' best y' (fy y' qf qz) ?_, fun w => absurd rfl w⟩
                rw [if_neg (fun w => by rcases w.2 with w | w; omega; exact hc w), hSt]
                exact Or.inr ⟨h1, h2, ⟨x1, x2⟩, h4, h5⟩
          · rw [y27]; omega
          · rw [y28]; omega
          · obtain ⟨q, qf, qz⟩ := q
            rcases q with ⟨e, hc, x1, x2⟩ | ⟨_, e, _⟩
            · subst e
              exact ⟨rr (by omega), fun w => absurd w (by omega), fun _ => yes y' (Or.inl (by rcases hst with h | h <;> omega)) (by rw [x1, y27]) (by rw [x2, y28]) (fy y' qf qz)⟩
            · omega
        refine vc_X11_guard_43 ?_
        rw [l205 i i0 i1, ← ea]
        refine ⟨by omega, ?_⟩
        -- the list moves up
        refine up_ind (P := fun j => ∀ y : Mem, Fr y → (∀ f : Int, y 201 f = x8 201 f) → (∀ l : Int, 0 ≤ l → l < N → y 205 l = if l < i then mthV s l else if l < j - 1 then mthV s (l + 1) else mthV s l) → V_X11_guard R 58 [(0, kR 201), (2, kI k), (3, kI best), (4, kI N), (5, kI i), (6, kI a), (7, kI j)] y) (lo := i + 1) (hi := N) ?_ ?_ (i + 1) (Int.le_refl _) (by omega) x8 hx8 (fun _ => rfl) (fun l l0 l1 => ?_)
        · intro j j0 j1 ihj y hy hf hL
          refine vc_X11_guard_58 ⟨rr (by omega), rr (by omega), fun q => absurd q (by omega), fun _ => ⟨by omega, by omega, vc_X11_guard_81 (ihj _ ?_ (fun f => by rw [ru_ne (by omega)]; exact hf f) (fun l l0 l1 => ?_))⟩⟩
          · rw [hFr] at hy ⊢
            exact ⟨fun z z0 z1 z2 => by rw [ru_ne z1, hy.1 z z0 z1 z2], by rw [ru_ne (by omega), hy.2.1], by rw [ru_ne (by omega), hy.2.2]⟩
          · have hj' := hL j (by omega) j1
            rw [if_neg (show ¬ j < i by omega), if_neg (show ¬ j < j - 1 by omega)] at hj'
            rw [ru_eq]
            by_cases e : l = j - 1
            · rw [e, r1_eq, hj', if_neg (show ¬ j - 1 < i by omega), if_pos (show j - 1 < j + 1 - 1 by omega), show j - 1 + 1 = j by omega]
            · rw [r1_ne e, hL l l0 l1]
              by_cases c1 : l < i
              · rw [if_pos c1, if_pos c1]
              · rw [if_neg c1, if_neg c1]
                by_cases c2 : l < j - 1
                · rw [if_pos c2, if_pos (show l < j + 1 - 1 by omega)]
                · rw [if_neg c2, if_neg (show ¬ l < j + 1 - 1 by omega)]
        · intro y hy hf hL
          refine vc_X11_guard_58 ⟨rr (by omega), rr (by omega), fun _ => ?_, fun q => absurd (Int.le_refl _) q⟩
          rw [hf 14, l14]
          refine vc_X11_guard_97 (vc_X11_guard_102 ?_)
          obtain ⟨y2, ey⟩ : ∃ y2, y2 = updm (updm (updm y 201 14 (N - 1)) 201 27 0) 201 28 1 := ⟨_, rfl⟩
          rw [← ey]
          have g14 : y2 201 14 = N - 1 := by rw [ey, ru_eq, r1_ne (by omega), ru_eq, r1_ne (by omega), ru_eq, r1_eq]
          have g27 : y2 201 27 = 0 := by rw [ey, ru_eq, r1_ne (by omega), ru_eq, r1_eq]
          have g28 : y2 201 28 = 1 := by rw [ey, ru_eq, r1_eq]
          have gf : ∀ f : Int, f ≠ 14 → f ≠ 27 → f ≠ 28 → y2 201 f = x8 201 f := fun f f1 f2 f3 => by rw [ey, ru_eq, r1_ne f3, ru_eq, r1_ne f2, ru_eq, r1_ne f1, hf f]
          have gz : ∀ z : Int, z ≠ 201 → y2 z = y z := fun z z0 => by rw [ey, ru_ne z0, ru_ne z0, ru_ne z0]
          have hy2 : Fr y2 := by
            rw [hFr] at hy ⊢
            exact ⟨fun z z0 z1 z2 => by rw [gz z z0, hy.1 z z0 z1 z2], by rw [gf 12 (by omega) (by omega) (by omega), ← hf 12, hy.2.1], by rw [gf 13 (by omega) (by omega) (by omega), ← hf 13, hy.2.2]⟩
          obtain ⟨mby, evy, y206, aky⟩ := frB y2 hy2
          have k47 : y2 201 47 = x 201 47 := by rw [gf 47 (by omega) (by omega) (by omega), e47]
          have k48 : y2 201 48 = x 201 48 := by rw [gf 48 (by omega) (by omega) (by omega), e48]
          have pr := popc_rem hi.1.1 hi.1.2 hi.2
          have esF : shF (vm m) a = if popc (remS s a) < 1 then (0, 1) else ((gv (wayV (vm m)) (remS s a)).2.1, (gv (wayV (vm m)) (remS s a)).2.2.1) := by rw [es]; rfl
          refine vc_X11_guard_107 ?_
          rw [g14]
          refine ⟨rr (by omega), fun c => ?_, fun c => ?_⟩
          · rw [if_pos (by omega)] at esF
            exact tk y2 hy2 k47 k48 (by rw [g27, esF]) (by rw [g28, esF])
          · rw [if_neg (by omega)] at esF
            have sub : ∀ b : Int, 0 ≤ b → b < 8 → hasB (remS s a) b = true → hasB (awayV (vm m)) b = true := by rw [es]; exact rem_sub hi.1.1
            have sw := sameW_m (W := Wm y2) (s := remS s a) ok sub (fun c d c0 c1 d0 d1 => by unfold Wm; rw [y206]; exact h206 c d c0 c1 d0 d1)
            have gp : GPm y2 (remS s a) := by
              refine ⟨?_, by omega, ⟨by rw [g14]; omega, fun l l0 l1 => ?_⟩, GW_W sw (gw_way ok hj sub)⟩
              · have := rem_bd (s := s) (a := a) sb.1
                omega
              · rw [gz 205 (by omega), hL l l0 (by omega)]
                have mr := mth_rem (s := s) (i := i) (l := l) i0 (by omega) l0 (by omega)
                rw [← ea] at mr
                rw [mr]
                by_cases c1 : l < i
                · rw [if_pos c1, if_pos c1]
                · rw [if_neg c1, if_neg c1, if_pos (show l < N - 1 by omega)]
            refine ⟨⟨rfl, _, gp⟩, fun y3 rv q => ?_⟩
            obtain ⟨rfl, q2, q3, q4⟩ := q
            obtain ⟨gq, _⟩ := q2 _ gp
            rw [← gv_congr (by omega) sw] at gq
            have hy3 : Fr y3 := by
              rw [hFr] at hy2 ⊢
              exact ⟨fun z z0 z1 z2 => by rw [q4 z z0 z2, hy2.1 z z0 z1 z2], by rw [q3 12 (by decide), hy2.2.1], by rw [q3 13 (by decide), hy2.2.2]⟩
            refine ⟨rr (by omega), fun w => absurd w (by omega), fun _ => tk y3 hy3 (by rw [q3 47 (by decide), k47]) (by rw [q3 48 (by decide), k48]) ?_ ?_⟩
            · rw [esF, gq]; rfl
            · rw [esF, gq]; rfl
        · rw [l205 l l0 l1]
          by_cases c1 : l < i
          · rw [if_pos c1]
          · rw [if_neg c1, if_neg (by omega)]
      · intro best x hx hst
        obtain ⟨mbx, evx, x206, akx⟩ := frB x hx
        have ps : mnR (hasB s) (shF (vm m)) (vm m 0 0) = mnR (hasB s) (shF (vm m)) (posL s N) := by
          have h1 := hM (N - 1) (by omega) (by omega)
          have h2 := hin _ h1.1.1 h1.1.2 h1.2
          have pN : posL s N = mthV s (N - 1) + 1 := if_neg (by omega)
          rw [hpe] at hp
          exact mnR_skip (by omega) (by omega) (fun b b0 b1 => posL_no (by omega) (by omega) b0 (by omega) (fun q => absurd q (by omega)))
        rw [hSt, ← ps] at hst
        have h0 := hM 0 (by omega) (by omega)
        have some : 0 ≤ (mnR (hasB s) (shF (vm m)) (vm m 0 0)).2 := by
          rw [hpe] at hp
          rcases mnR_cases (q := hasB s) (f := shF (vm m)) (n := vm m 0 0) (by omega) with ⟨_, hq⟩ | ⟨j, hj2, e, _⟩
          · have := hq _ h0.1.1 (hin _ h0.1.1 h0.1.2 h0.2)
            rw [h0.2] at this; cases this
          · rw [e]; exact hj2.1
        rcases hst with h | ⟨h1, h2, h3, h4, h5⟩
        · omega
        · refine vc_X11_guard_32 ⟨rr (by omega), rr (by omega), fun _ => ⟨r_k, fun c1 => ⟨r_k, fun c2 => fin x _ akx ?_, fun c2 => fin x _ akx ?_⟩, fun c1 => ⟨rr (by omega), fin x _ akx ?_⟩⟩, fun q => absurd (Int.le_refl _) q⟩
          · rw [if_neg c1, if_neg c2, h3.2]
          · rw [if_neg c1, if_pos (Classical.not_not.mp c2), h3.1]
          · rw [if_pos (Classical.not_not.mp c1), h2]
  · have e := q3 c
    subst e
    exact ⟨rr (by omega), fun _ => hR m _ ⟨ask, (onM_no c).symm⟩, fun q => absurd rfl q⟩
theorem ct_X11_guard : Ct mX11_guard 6 145 0 0 (nrmS S_X11_guard) := by
  refine ct_vm (own := RX11) (by decide +kernel) rfl ?_ ?_
  · intro as μ Q hS
    unfold S_X11_guard at hS
    split at hS
    · exact Nat.le_of_ble_eq_true rfl
    · exact hS.elim
  · intro as μ R hS
    unfold S_X11_guard at hS
    split at hS
    · exact body_X11_guard hS.1 hS.2
    · exact hS.elim
def P_X11_open (o n k w : Int) (μ : Mem) : Prop := o = 201 ∧ SOk (stM μ) ∧ r32 n ∧ r32 k ∧ r32 w
def Q_X11_open (_ n k w : Int) (μ μ' : Mem) (r : Int) : Prop := AskM μ μ' ∧ r = onT (stM μ).1 n (-1000000000000) (openT k w)
def S_X11_open : S0t := fun as μ Q => match as with
  | [(2, x0), (0, x1), (0, x2), (0, x3)] => P_X11_open x0 x1 x2 x3 μ ∧ ∀ (μ' : Mem) (r : Int), Q_X11_open x0 x1 x2 x3 μ μ' r → Q μ' (some (kL r))
  | _ => False
theorem mono_X11_open : Mono S_X11_open := by
  intro as μ Q Q' h hS
  unfold S_X11_open at hS ⊢
  split at hS
  · exact ⟨hS.1, fun μ' r q => h _ _ (hS.2 _ _ q)⟩
  · exact hS.elim
def iX11_open : Inf := (kX11_open, fTX11, pTX11, cTX11, lTX11, sTX11, [(162, 1, 3, 0, S_X11_isIn), (324, 0, 1, 11, S_X11_kernels), (209, 0, 1, 11, S_X11_of), (222, 0, 0, 11, S_X11_distances), (213, 0, 0, 11, S_X11_spreads), (306, 0, 0, 11, S_X11_searches), (433, 0, 1, 11, S_X11_takes)])
theorem ok_X11_open : infOK iX11_open mX11_open RX11 6 145 := ⟨kkX11_open, fTX11_ok, pTX11_ok _, cTX11_ok, lTX11_ok, sTX11_ok, c_cons ⟨mX11_isIn, 0, 0, ct_X11_isIn, mmX11_isIn, stX11_isIn, lkX11_162, ⟨by decide, by decide⟩, mono_X11_isIn⟩ (c_cons ⟨mX11_kernels, 5, 124, ct_X11_kernels, mmX11_kernels, vvX11_kernels, lkX11_324, ⟨by decide, by decide⟩, ⟨_, _, rfl⟩, by decide, mono_X11_kernels⟩ (c_cons ⟨mX11_of, 0, 0, ct_X11_of, mmX11_of, vvX11_of, lkX11_209, ⟨by decide, by decide⟩, ⟨_, _, rfl⟩, by decide, mono_X11_of⟩ (c_cons ⟨mX11_distances, 1, 24, ct_X11_distances, mmX11_distances, vvX11_distances, lkX11_222, ⟨by decide, by decide⟩, ⟨_, _, rfl⟩, by decide, mono_X11_distances⟩ (c_cons ⟨mX11_spreads, 0, 0, ct_X11_spreads, mmX11_spreads, vvX11_spreads, lkX11_213, ⟨by decide, by decide⟩, ⟨_, _, rfl⟩, by decide, mono_X11_spreads⟩ (c_cons ⟨mX11_searches, 4, 101, ct_X11_searches, mmX11_searches, vvX11_searches, lkX11_306, ⟨by decide, by decide⟩, ⟨_, _, rfl⟩, by decide, mono_X11_searches⟩ (c_cons ⟨mX11_takes, 1, 40, ct_X11_takes, mmX11_takes, vvX11_takes, lkX11_433, ⟨by decide, by decide⟩, ⟨_, _, rfl⟩, by decide, mono_X11_takes⟩ (c_nil)))))))⟩
theorem mt_X11_open : mtOK [] RX11 6 145 := mt_nil
abbrev V_X11_open (R : Mem → Option AV → Prop) (pc : Nat) (lc : List (Nat × AV)) (μ : Mem) : Prop := VM mX11_open RX11 6 145 R pc lc [] μ
set_option maxRecDepth 20000 in
theorem vc_X11_open_0 {R : Mem → Option AV → Prop} {n k q : Int} {μ : Mem} (H : P_X11_isIn k 1 20 μ ∧ r32 (F_X11_isIn k 1 20 μ) ∧ (((F_X11_isIn k 1 20 μ) = 0) → R μ (some (kL (-1000000000000)))) ∧ (¬ ((F_X11_isIn k 1 20 μ) = 0) → P_X11_isIn q 0 3 μ ∧ r32 (F_X11_isIn q 0 3 μ) ∧ (((F_X11_isIn q 0 3 μ) = 0) → R μ (some (kL (-1000000000000)))) ∧ (¬ ((F_X11_isIn q 0 3 μ) = 0) → P_X11_kernels 201 n μ ∧ (∀ (μ1 : Mem) (rv2 : Int), Q_X11_kernels 201 n μ μ1 rv2 → r32 rv2 ∧ ((¬ rv2 = 0) → V_X11_open R 40 [(0, kR 201), (2, kI k), (3, kI q), (4, kI (-1)), (5, kI (-1)), (6, kI 0)] μ1) ∧ (¬ (¬ rv2 = 0) → R μ1 (some (kL (-1000000000000)))))))) : V_X11_open R 0 [(0, kR 201), (1, kI n), (2, kI k), (3, kI q)] μ := by
  refine vm_step2 mt_X11_open ok_X11_open [(40, [0, 2, 3, 4, 5, 6]), (55, [0, 2, 3, 4, 5, 6, 7]), (89, [0, 2, 3, 4, 5, 6, 7]), (120, [0, 2, 3, 4, 5, 6, 7]), (134, [0, 2, 3, 4, 5, 6, 7]), (138, [0, 2, 3, 4, 5, 6, 7])] 1000 ?_
  show P_X11_isIn k 1 20 μ ∧ r32 (F_X11_isIn k 1 20 μ) ∧ (((F_X11_isIn k 1 20 μ) = 0) → R μ (some (kL (-1000000000000)))) ∧ (¬ ((F_X11_isIn k 1 20 μ) = 0) → P_X11_isIn q 0 3 μ ∧ r32 (F_X11_isIn q 0 3 μ) ∧ (((F_X11_isIn q 0 3 μ) = 0) → R μ (some (kL (-1000000000000)))) ∧ (¬ ((F_X11_isIn q 0 3 μ) = 0) → isC 201 11 ∧ P_X11_kernels 201 n μ ∧ (∀ (μ1 : Mem) (rv2 : Int), Q_X11_kernels 201 n μ μ1 rv2 → r32 rv2 ∧ ((¬ rv2 = 0) → V_X11_open R 40 [(0, kR 201), (2, kI k), (3, kI q), (4, kI (-1)), (5, kI (-1)), (6, kI 0)] μ1) ∧ (¬ (¬ rv2 = 0) → R μ1 (some (kL (-1000000000000)))))))
  exact ⟨H.1, ⟨H.2.1, fun hc6 => (H.2.2.1 hc6), fun hc6 => ⟨(H.2.2.2 hc6).1, ⟨(H.2.2.2 hc6).2.1, fun hc5 => ((H.2.2.2 hc6).2.2.1 hc5), fun hc5 => ⟨c_201, ((H.2.2.2 hc6).2.2.2 hc5).1, fun μ1 rv2 hq3 => ⟨(((H.2.2.2 hc6).2.2.2 hc5).2 μ1 rv2 hq3).1, fun hc4 => ((((H.2.2.2 hc6).2.2.2 hc5).2 μ1 rv2 hq3).2.1 hc4), fun hc4 => ((((H.2.2.2 hc6).2.2.2 hc5).2 μ1 rv2 hq3).2.2 hc4)⟩⟩⟩⟩⟩⟩
set_option maxRecDepth 20000 in
theorem vc_X11_open_40 {R : Mem → Option AV → Prop} {k q p1 p2 a : Int} {μ : Mem} (H : r32 a ∧ r32 (μ 201 13) ∧ (((μ 201 13) ≤ a) → r32 p1 ∧ ((0 ≤ p1) → r32 q ∧ ((¬ q = 0) → r32 q ∧ ((¬ q = (1 : Int)) → r32 q ∧ ((¬ q = (2 : Int)) → R μ (some (kL (μ 201 48)))) ∧ (¬ (¬ q = (2 : Int)) → R μ (some (kL (μ 201 47))))) ∧ (¬ (¬ q = (1 : Int)) → r32 p2 ∧ R μ (some (kL p2)))) ∧ (¬ (¬ q = 0) → r32 p1 ∧ R μ (some (kL p1)))) ∧ (¬ (0 ≤ p1) → R μ (some (kL (-1000000000000))))) ∧ (¬ ((μ 201 13) ≤ a) → V_X11_open R 55 [(0, kR 201), (2, kI k), (3, kI q), (4, kI p1), (5, kI p2), (6, kI a), (7, kI (a + 1))] μ)) : V_X11_open R 40 [(0, kR 201), (2, kI k), (3, kI q), (4, kI p1), (5, kI p2), (6, kI a)] μ := by
  refine vm_step2 mt_X11_open ok_X11_open [(40, [0, 2, 3, 4, 5, 6]), (55, [0, 2, 3, 4, 5, 6, 7]), (89, [0, 2, 3, 4, 5, 6, 7]), (120, [0, 2, 3, 4, 5, 6, 7]), (134, [0, 2, 3, 4, 5, 6, 7]), (138, [0, 2, 3, 4, 5, 6, 7])] 1000 ?_
  show isC 201 11 ∧ (r32 a ∧ r32 (μ 201 13)) ∧ (((μ 201 13) ≤ a) → r32 p1 ∧ ((0 ≤ p1) → r32 q ∧ ((¬ q = 0) → (r32 q ∧ r32 (1 : Int)) ∧ ((¬ q = (1 : Int)) → (r32 q ∧ r32 (2 : Int)) ∧ ((¬ q = (2 : Int)) → isC 201 11 ∧ R μ (some (kL (μ 201 48)))) ∧ (¬ (¬ q = (2 : Int)) → isC 201 11 ∧ R μ (some (kL (μ 201 47))))) ∧ (¬ (¬ q = (1 : Int)) → r32 p2 ∧ R μ (some (kL p2)))) ∧ (¬ (¬ q = 0) → r32 p1 ∧ R μ (some (kL p1)))) ∧ (¬ (0 ≤ p1) → R μ (some (kL (-1000000000000))))) ∧ (¬ ((μ 201 13) ≤ a) → V_X11_open R 55 [(0, kR 201), (2, kI k), (3, kI q), (4, kI p1), (5, kI p2), (6, kI a), (7, kI (a + 1))] μ)
  exact ⟨c_201, ⟨⟨H.1, H.2.1⟩, fun hc11 => ⟨(H.2.2.1 hc11).1, fun hc10 => ⟨((H.2.2.1 hc11).2.1 hc10).1, fun hc9 => ⟨⟨(((H.2.2.1 hc11).2.1 hc10).2.1 hc9).1, by unfold r32; omega⟩, fun hc8 => ⟨⟨((((H.2.2.1 hc11).2.1 hc10).2.1 hc9).2.1 hc8).1, by unfold r32; omega⟩, fun hc7 => ⟨c_201, (((((H.2.2.1 hc11).2.1 hc10).2.1 hc9).2.1 hc8).2.1 hc7)⟩, fun hc7 => ⟨c_201, (((((H.2.2.1 hc11).2.1 hc10).2.1 hc9).2.1 hc8).2.2 hc7)⟩⟩, fun hc8 => ⟨((((H.2.2.1 hc11).2.1 hc10).2.1 hc9).2.2 hc8).1, ((((H.2.2.1 hc11).2.1 hc10).2.1 hc9).2.2 hc8).2⟩⟩, fun hc9 => ⟨(((H.2.2.1 hc11).2.1 hc10).2.2 hc9).1, (((H.2.2.1 hc11).2.1 hc10).2.2 hc9).2⟩⟩, fun hc10 => ((H.2.2.1 hc11).2.2 hc10)⟩, fun hc11 => (H.2.2.2 hc11)⟩⟩
set_option maxRecDepth 20000 in
theorem vc_X11_open_55 {R : Mem → Option AV → Prop} {k q p1 p2 a b : Int} {μ : Mem} (H : r32 b ∧ r32 (μ 201 13) ∧ (((μ 201 13) ≤ b) → V_X11_open R 40 [(0, kR 201), (2, kI k), (3, kI q), (4, kI p1), (5, kI p2), (6, kI (a + 1))] μ) ∧ (¬ ((μ 201 13) ≤ b) → P_X11_of 201 ((40 + (8 * a)) + b) μ ∧ r32 (F_X11_of 201 ((40 + (8 * a)) + b) μ) ∧ (((F_X11_of 201 ((40 + (8 * a)) + b) μ) ≤ 0) → P_X11_distances 201 μ ∧ (∀ (μ12 : Mem), Q_X11_distances 201 μ μ12 → V_X11_open R 89 [(0, kR 201), (2, kI k), (3, kI q), (4, kI p1), (5, kI p2), (6, kI a), (7, kI b)] μ12)) ∧ (¬ ((F_X11_of 201 ((40 + (8 * a)) + b) μ) ≤ 0) → V_X11_open R 55 [(0, kR 201), (2, kI k), (3, kI q), (4, kI p1), (5, kI p2), (6, kI a), (7, kI (b + 1))] μ))) : V_X11_open R 55 [(0, kR 201), (2, kI k), (3, kI q), (4, kI p1), (5, kI p2), (6, kI a), (7, kI b)] μ := by
  refine vm_step2 mt_X11_open ok_X11_open [(40, [0, 2, 3, 4, 5, 6]), (55, [0, 2, 3, 4, 5, 6, 7]), (89, [0, 2, 3, 4, 5, 6, 7]), (120, [0, 2, 3, 4, 5, 6, 7]), (134, [0, 2, 3, 4, 5, 6, 7]), (138, [0, 2, 3, 4, 5, 6, 7])] 1000 ?_
  show isC 201 11 ∧ (r32 b ∧ r32 (μ 201 13)) ∧ (((μ 201 13) ≤ b) → V_X11_open R 40 [(0, kR 201), (2, kI k), (3, kI q), (4, kI p1), (5, kI p2), (6, kI (a + 1))] μ) ∧ (¬ ((μ 201 13) ≤ b) → isC 201 11 ∧ P_X11_of 201 ((40 + (8 * a)) + b) μ ∧ r32 (F_X11_of 201 ((40 + (8 * a)) + b) μ) ∧ (((F_X11_of 201 ((40 + (8 * a)) + b) μ) ≤ 0) → isC 201 11 ∧ P_X11_distances 201 μ ∧ (∀ (μ12 : Mem), Q_X11_distances 201 μ μ12 → V_X11_open R 89 [(0, kR 201), (2, kI k), (3, kI q), (4, kI p1), (5, kI p2), (6, kI a), (7, kI b)] μ12)) ∧ (¬ ((F_X11_of 201 ((40 + (8 * a)) + b) μ) ≤ 0) → V_X11_open R 55 [(0, kR 201), (2, kI k), (3, kI q), (4, kI p1), (5, kI p2), (6, kI a), (7, kI (b + 1))] μ))
  exact ⟨c_201, ⟨⟨H.1, H.2.1⟩, fun hc16 => (H.2.2.1 hc16), fun hc16 => ⟨c_201, (H.2.2.2 hc16).1, ⟨(H.2.2.2 hc16).2.1, fun hc15 => ⟨c_201, ((H.2.2.2 hc16).2.2.1 hc15).1, fun μ12 hq14 => (((H.2.2.2 hc16).2.2.1 hc15).2 μ12 hq14)⟩, fun hc15 => ((H.2.2.2 hc16).2.2.2 hc15)⟩⟩⟩⟩
set_option maxRecDepth 20000 in
theorem vc_X11_open_89 {R : Mem → Option AV → Prop} {k q p1 p2 a b : Int} {μ : Mem} (H : (0 ≤ ((8 * a) + b) ∧ ((8 * a) + b) < 64) ∧ r32 k ∧ r32 (μ 206 ((8 * a) + b)) ∧ (((μ 206 ((8 * a) + b)) ≤ k) → V_X11_open R 138 [(0, kR 201), (2, kI k), (3, kI q), (4, kI p1), (5, kI p2), (6, kI a), (7, kI b)] μ) ∧ (¬ ((μ 206 ((8 * a) + b)) ≤ k) → (0 ≤ ((8 * a) + b) ∧ ((8 * a) + b) < 64) ∧ V_X11_open R 120 [(0, kR 201), (2, kI k), (3, kI q), (4, kI p1), (5, kI p2), (6, kI a), (7, kI b)] (updm μ 206 ((8 * a) + b) k))) : V_X11_open R 89 [(0, kR 201), (2, kI k), (3, kI q), (4, kI p1), (5, kI p2), (6, kI a), (7, kI b)] μ := by
  refine vm_step2 mt_X11_open ok_X11_open [(40, [0, 2, 3, 4, 5, 6]), (55, [0, 2, 3, 4, 5, 6, 7]), (89, [0, 2, 3, 4, 5, 6, 7]), (120, [0, 2, 3, 4, 5, 6, 7]), (134, [0, 2, 3, 4, 5, 6, 7]), (138, [0, 2, 3, 4, 5, 6, 7])] 1000 ?_
  show isC 201 11 ∧ inA 206 0 ((8 * a) + b) ∧ (r32 k ∧ r32 (μ 206 ((8 * a) + b))) ∧ (((μ 206 ((8 * a) + b)) ≤ k) → V_X11_open R 138 [(0, kR 201), (2, kI k), (3, kI q), (4, kI p1), (5, kI p2), (6, kI a), (7, kI b)] μ) ∧ (¬ ((μ 206 ((8 * a) + b)) ≤ k) → isC 201 11 ∧ inA 206 0 ((8 * a) + b) ∧ V_X11_open R 120 [(0, kR 201), (2, kI k), (3, kI q), (4, kI p1), (5, kI p2), (6, kI a), (7, kI b)] (updm μ 206 ((8 * a) + b) k))
  exact ⟨c_201, ⟨isArr.in a_206 H.1.1 H.1.2, ⟨⟨H.2.1, H.2.2.1⟩, fun hc17 => (H.2.2.2.1 hc17), fun hc17 => ⟨c_201, ⟨isArr.in a_206 (H.2.2.2.2 hc17).1.1 (H.2.2.2.2 hc17).1.2, (H.2.2.2.2 hc17).2⟩⟩⟩⟩⟩
set_option maxRecDepth 20000 in
theorem vc_X11_open_120 {R : Mem → Option AV → Prop} {k q p1 p2 a b : Int} {μ : Mem} (H : (0 ≤ ((8 * b) + a) ∧ ((8 * b) + a) < 64) ∧ V_X11_open R 134 [(0, kR 201), (2, kI k), (3, kI q), (4, kI p1), (5, kI p2), (6, kI a), (7, kI b)] (updm μ 206 ((8 * b) + a) k)) : V_X11_open R 120 [(0, kR 201), (2, kI k), (3, kI q), (4, kI p1), (5, kI p2), (6, kI a), (7, kI b)] μ := by
  refine vm_step2 mt_X11_open ok_X11_open [(40, [0, 2, 3, 4, 5, 6]), (55, [0, 2, 3, 4, 5, 6, 7]), (89, [0, 2, 3, 4, 5, 6, 7]), (120, [0, 2, 3, 4, 5, 6, 7]), (134, [0, 2, 3, 4, 5, 6, 7]), (138, [0, 2, 3, 4, 5, 6, 7])] 1000 ?_
  show isC 201 11 ∧ inA 206 0 ((8 * b) + a) ∧ V_X11_open R 134 [(0, kR 201), (2, kI k), (3, kI q), (4, kI p1), (5, kI p2), (6, kI a), (7, kI b)] (updm μ 206 ((8 * b) + a) k)
  exact ⟨c_201, ⟨isArr.in a_206 H.1.1 H.1.2, H.2⟩⟩
set_option maxRecDepth 20000 in
theorem vc_X11_open_134 {R : Mem → Option AV → Prop} {k q p1 p2 a b : Int} {μ : Mem} (H : P_X11_spreads 201 μ ∧ (∀ (μ18 : Mem), Q_X11_spreads 201 μ μ18 → V_X11_open R 138 [(0, kR 201), (2, kI k), (3, kI q), (4, kI p1), (5, kI p2), (6, kI a), (7, kI b)] μ18)) : V_X11_open R 134 [(0, kR 201), (2, kI k), (3, kI q), (4, kI p1), (5, kI p2), (6, kI a), (7, kI b)] μ := by
  refine vm_step2 mt_X11_open ok_X11_open [(40, [0, 2, 3, 4, 5, 6]), (55, [0, 2, 3, 4, 5, 6, 7]), (89, [0, 2, 3, 4, 5, 6, 7]), (120, [0, 2, 3, 4, 5, 6, 7]), (134, [0, 2, 3, 4, 5, 6, 7]), (138, [0, 2, 3, 4, 5, 6, 7])] 1000 ?_
  show isC 201 11 ∧ P_X11_spreads 201 μ ∧ (∀ (μ18 : Mem), Q_X11_spreads 201 μ μ18 → V_X11_open R 138 [(0, kR 201), (2, kI k), (3, kI q), (4, kI p1), (5, kI p2), (6, kI a), (7, kI b)] μ18)
  exact ⟨c_201, H.1, fun μ18 hq20 => (H.2 μ18 hq20)⟩
set_option maxRecDepth 20000 in
theorem vc_X11_open_138 {R : Mem → Option AV → Prop} {k q p1 p2 a b : Int} {μ : Mem} (H : P_X11_searches 201 μ ∧ (∀ (μ21 : Mem) (rv22 : Int), Q_X11_searches 201 μ μ21 rv22 → r32 p1 ∧ ((0 ≤ p1) → P_X11_takes 201 0 μ21 ∧ (∀ (μ24 : Mem) (rv25 : Int), Q_X11_takes 201 0 μ21 μ24 rv25 → r32 rv25 ∧ ((¬ rv25 = 0) → V_X11_open R 55 [(0, kR 201), (2, kI k), (3, kI q), (4, kI a), (5, kI b), (6, kI a), (7, kI (b + 1))] μ24) ∧ (¬ (¬ rv25 = 0) → V_X11_open R 55 [(0, kR 201), (2, kI k), (3, kI q), (4, kI p1), (5, kI p2), (6, kI a), (7, kI (b + 1))] μ24))) ∧ (¬ (0 ≤ p1) → P_X11_takes 201 1 μ21 ∧ (∀ (μ28 : Mem) (rv29 : Int), Q_X11_takes 201 1 μ21 μ28 rv29 → r32 rv29 ∧ ((¬ rv29 = 0) → V_X11_open R 55 [(0, kR 201), (2, kI k), (3, kI q), (4, kI a), (5, kI b), (6, kI a), (7, kI (b + 1))] μ28) ∧ (¬ (¬ rv29 = 0) → V_X11_open R 55 [(0, kR 201), (2, kI k), (3, kI q), (4, kI p1), (5, kI p2), (6, kI a), (7, kI (b + 1))] μ28))))) : V_X11_open R 138 [(0, kR 201), (2, kI k), (3, kI q), (4, kI p1), (5, kI p2), (6, kI a), (7, kI b)] μ := by
  refine vm_step2 mt_X11_open ok_X11_open [(40, [0, 2, 3, 4, 5, 6]), (55, [0, 2, 3, 4, 5, 6, 7]), (89, [0, 2, 3, 4, 5, 6, 7]), (120, [0, 2, 3, 4, 5, 6, 7]), (134, [0, 2, 3, 4, 5, 6, 7]), (138, [0, 2, 3, 4, 5, 6, 7])] 1000 ?_
  show isC 201 11 ∧ P_X11_searches 201 μ ∧ (∀ (μ21 : Mem) (rv22 : Int), Q_X11_searches 201 μ μ21 rv22 → r32 p1 ∧ ((0 ≤ p1) → isC 201 11 ∧ P_X11_takes 201 0 μ21 ∧ (∀ (μ24 : Mem) (rv25 : Int), Q_X11_takes 201 0 μ21 μ24 rv25 → r32 rv25 ∧ ((¬ rv25 = 0) → V_X11_open R 55 [(0, kR 201), (2, kI k), (3, kI q), (4, kI a), (5, kI b), (6, kI a), (7, kI (b + 1))] μ24) ∧ (¬ (¬ rv25 = 0) → V_X11_open R 55 [(0, kR 201), (2, kI k), (3, kI q), (4, kI p1), (5, kI p2), (6, kI a), (7, kI (b + 1))] μ24))) ∧ (¬ (0 ≤ p1) → isC 201 11 ∧ P_X11_takes 201 1 μ21 ∧ (∀ (μ28 : Mem) (rv29 : Int), Q_X11_takes 201 1 μ21 μ28 rv29 → r32 rv29 ∧ ((¬ rv29 = 0) → V_X11_open R 55 [(0, kR 201), (2, kI k), (3, kI q), (4, kI a), (5, kI b), (6, kI a), (7, kI (b + 1))] μ28) ∧ (¬ (¬ rv29 = 0) → V_X11_open R 55 [(0, kR 201), (2, kI k), (3, kI q), (4, kI p1), (5, kI p2), (6, kI a), (7, kI (b + 1))] μ28))))
  exact ⟨c_201, H.1, fun μ21 rv22 hq23 => ⟨(H.2 μ21 rv22 hq23).1, fun hc32 => ⟨c_201, ((H.2 μ21 rv22 hq23).2.1 hc32).1, fun μ24 rv25 hq26 => ⟨(((H.2 μ21 rv22 hq23).2.1 hc32).2 μ24 rv25 hq26).1, fun hc27 => ((((H.2 μ21 rv22 hq23).2.1 hc32).2 μ24 rv25 hq26).2.1 hc27), fun hc27 => ((((H.2 μ21 rv22 hq23).2.1 hc32).2 μ24 rv25 hq26).2.2 hc27)⟩⟩, fun hc32 => ⟨c_201, ((H.2 μ21 rv22 hq23).2.2 hc32).1, fun μ28 rv29 hq30 => ⟨(((H.2 μ21 rv22 hq23).2.2 hc32).2 μ28 rv29 hq30).1, fun hc31 => ((((H.2 μ21 rv22 hq23).2.2 hc32).2 μ28 rv29 hq30).2.1 hc31), fun hc31 => ((((H.2 μ21 rv22 hq23).2.2 hc32).2 μ28 rv29 hq30).2.2 hc31)⟩⟩⟩⟩
theorem body_X11_open {o n k w : Int} {μ : Mem} {R : Mem → Option AV → Prop} (h : P_X11_open o n k w μ) (hR : ∀ (μ' : Mem) (r : Int), Q_X11_open o n k w μ μ' r → R μ' (some (kL r))) : V_X11_open R 0 [(0, kR o), (1, kI n), (2, kI k), (3, kI w)] μ := by
  obtain ⟨rfl, hs, r_n, r_k, r_w⟩ := h
  have bad : ¬ ((1 ≤ k ∧ k ≤ 20) ∧ 0 ≤ w ∧ w ≤ 3) → Q_X11_open 201 n k w μ μ (-1000000000000) := fun q => by
    refine ⟨AskM_0 μ, ?_⟩
    by_cases c : 0 ≤ n ∧ n < μ 202 0
    · rw [onM_yes c]
      unfold openT
      rw [if_neg (fun g => q ⟨g.2.1, g.2.2.1⟩)]
    · exact (onM_no c).symm
  have ik := isIn_r (x := k) (lo := 1) (hi := 20) (μ := μ)
  have iw := isIn_r (x := w) (lo := 0) (hi := 3) (μ := μ)
  refine vc_X11_open_0 ⟨⟨r_k, rr (by omega), rr (by omega)⟩, rr (by omega), fun d => hR μ _ (bad (fun q => isIn_1.mpr q.1 d)), fun d0 => ⟨⟨r_w, rr (by omega), rr (by omega)⟩, rr (by omega), fun d => hR μ _ (bad (fun q => isIn_1.mpr q.2 d)), fun d1 => ⟨⟨rfl, hs, r_n⟩, fun m rv q => ?_⟩⟩⟩
  have dk : (1 ≤ k ∧ k ≤ 20) ∧ 0 ≤ w ∧ w ≤ 3 := ⟨isIn_1.mp d0, isIn_1.mp d1⟩
  obtain ⟨q1, q3, q4⟩ := q
  have ask : AskM μ m := fun z hz => q1 z (by omega) (by omega) (by omega) (by omega)
  by_cases c : 0 ≤ n ∧ n < μ 202 0
  · obtain ⟨hl, hv, hcase⟩ := q4 c
    have hb := hl.1
    have ok := hb.v
    have hp := hb.p
    have hpe := hb.2.1
    have a0 := AskM_0 m
    have fin : ∀ (m' : Mem) (x : Int), AskM m m' → x = (openT k w) (vm m) → R m' (some (kL x)) := fun m' x ha hx => hR m' x ⟨ask.trans ha, by rw [hx, onM_yes c, ← hv]⟩
    unfold openT at fin
    rcases hcase with ⟨cg, rfl⟩ | ⟨cg, rfl, hg, hk, hcp, hrp⟩
    · exact ⟨rr (by omega), fun q => absurd rfl q, fun _ => fin m _ a0 (if_neg (fun q => cg q.1)).symm⟩
    · refine ⟨rr (by omega), fun _ => ?_, fun q => absurd (show ¬ (1 : Int) = 0 by omega) q⟩
      have vok : VOk (vm m) := hb.2.2
      have hj := vok.2.1
      have h206 := hl.2.1
      rw [hpe] at hp
      obtain ⟨F, hF⟩ : ∃ F : Int → Int × Int, F = opF (vm m) k := ⟨_, rfl⟩
      have eop : openV (vm m) k = mnR (newB (vm m)) F := by rw [hF]; rfl
      rw [eop] at fin
      have gwid : ∀ a b : Int, 0 ≤ a → a < vm m 0 0 → 0 ≤ b → b < vm m 0 0 → GW (widV (wayV (vm m)) a b k) (awayV (vm m)) := fun a b a0 a1 b0 b1 => gw_wid ok hj (by omega) a0 a1 b0 b1
      have eF : ∀ a b : Int, 0 ≤ a → a < 8 → 0 ≤ b → b < 8 → F (8 * a + b) = ((gv (widV (wayV (vm m)) a b k) (awayV (vm m))).2.1, (gv (widV (wayV (vm m)) a b k) (awayV (vm m))).2.2.1) := fun a b a0 a1 b0 b1 => by
        rw [hF]
        unfold opF
        rw [show (8 * a + b) / 8 = a by omega, show (8 * a + b) % 8 = b by omega]
      have Fb : ∀ a b : Int, 0 ≤ a → a < vm m 0 0 → 0 ≤ b → b < vm m 0 0 → (0 ≤ (F (8 * a + b)).1 ∧ (F (8 * a + b)).1 ≤ 2360279040000) ∧ 1 ≤ (F (8 * a + b)).2 ∧ (F (8 * a + b)).2 ≤ 4214784000 := fun a b a0 a1 b0 b1 => by
        rw [eF a b a0 (by omega) b0 (by omega)]
        have := gv_bd (gwid a b a0 a1 b0 b1) cg
        exact ⟨this.2.2.1, this.2.2.2⟩
      -- what is held
      obtain ⟨St, hSt⟩ : ∃ St : Int → Int → Int → Mem → Prop, ∀ j p1 p2 x, St j p1 p2 x = (((mnR (newB (vm m)) F j).2 < 0 ∧ p1 = -1 ∧ p2 = -1) ∨ ((0 ≤ (mnR (newB (vm m)) F j).2 ∧ (mnR (newB (vm m)) F j).2 < 64) ∧ (p1 = (mnR (newB (vm m)) F j).2 / 8 ∧ p2 = (mnR (newB (vm m)) F j).2 % 8) ∧ (x 201 47 = (mnR (newB (vm m)) F j).1.1 ∧ x 201 48 = (mnR (newB (vm m)) F j).1.2) ∧ (0 ≤ (mnR (newB (vm m)) F j).1.1 ∧ (mnR (newB (vm m)) F j).1.1 ≤ 2360279040000) ∧ 1 ≤ (mnR (newB (vm m)) F j).1.2 ∧ (mnR (newB (vm m)) F j).1.2 ≤ 4214784000)) := ⟨_, fun _ _ _ _ => rfl⟩
      have stT : ∀ i j p1 p2 x, 0 ≤ i → i ≤ j → (∀ y, i ≤ y → y < j → newB (vm m) y = false) → St i p1 p2 x → St j p1 p2 x := fun i j p1 p2 x i0 ij hn h => by
        rw [hSt] at h ⊢
        rw [mnR_skip (q := newB (vm m)) (f := F) i0 ij hn]
        exact h
      obtain ⟨Fr, hFr⟩ : ∃ Fr : Mem → Prop, ∀ x, Fr x = ((∀ z : Int, z ≠ 201 → z ≠ 206 → (z < 209 ∨ 214 < z) → x z = m z) ∧ x 201 12 = m 201 12 ∧ x 201 13 = m 201 13 ∧ x 201 14 = m 201 14) := ⟨_, fun _ => rfl⟩
      have frB : ∀ x, Fr x → MB x ∧ vm x = vm m ∧ x 201 13 = vm m 0 0 ∧ CR x (awayV (vm m)) ∧ AskM m x := fun x hx => by
        rw [hFr] at hx
        obtain ⟨mb, evx⟩ := MB_frame hb (hx.1 202 (by omega) (by omega) (by omega)) hx.2.1 hx.2.2.1
        refine ⟨mb, evx, by rw [hx.2.2.1, hpe], ?_, fun z hz => hx.1 z (by omega) (by omega) (by omega)⟩
        have := hl.2.2
        unfold CR at this ⊢
        rw [hx.2.2.2, hx.1 205 (by omega) (by omega) (by omega)]
        exact this
      refine up_ind (P := fun a => ∀ (x : Mem) (p1 p2 : Int), Fr x → St (8 * a) p1 p2 x → V_X11_open R 40 [(0, kR 201), (2, kI k), (3, kI w), (4, kI p1), (5, kI p2), (6, kI a)] x) (lo := 0) (hi := vm m 0 0) ?_ ?_ 0 (by omega) (by omega) m (-1) (-1) (by rw [hFr]; exact ⟨fun _ _ _ _ => rfl, rfl, rfl, rfl⟩) (by rw [hSt]; exact Or.inl ⟨by show (-1 : Int) < 0; omega, rfl, rfl⟩)
      · intro a a0' a1 iha x p1 p2 hx hst
        obtain ⟨_, _, x13, _, _⟩ := frB x hx
        refine vc_X11_open_40 ?_
        rw [x13]
        refine ⟨rr (by omega), rr (by omega), fun c => absurd c (by omega), fun _ => ?_⟩
        refine up_ind (P := fun b => ∀ (x : Mem) (p1 p2 : Int), Fr x → St (8 * a + b) p1 p2 x → V_X11_open R 55 [(0, kR 201), (2, kI k), (3, kI w), (4, kI p1), (5, kI p2), (6, kI a), (7, kI b)] x) (lo := a + 1) (hi := vm m 0 0) ?_ ?_ (a + 1) (Int.le_refl _) (by omega) x p1 p2 hx (stT (8 * a) (8 * a + (a + 1)) p1 p2 x (by omega) (by omega) (fun j j0 j1 => decide_eq_false (by omega)) hst)
        · intro b b0 b1 ihb x p1 p2 hx hst
          obtain ⟨mbx, evx, x13, crx, _⟩ := frB x hx
          have h7 := vm7_nn ok (8 * a + b)
          refine vc_X11_open_55 ?_
          rw [x13, of_7' (by omega) (by omega) (by omega) (by omega), evx]
          refine ⟨rr (by omega), rr (by omega), fun c => absurd c (by omega), fun _ => ⟨⟨rfl, mbx.1, by omega, by omega⟩, rr (by omega), fun c7 => ⟨⟨rfl, mbx⟩, fun x1 hq => ?_⟩, fun c7 => ihb x p1 p2 hx (by
            rw [show 8 * a + (b + 1) = 8 * a + b + 1 by omega]
            exact stT _ _ p1 p2 x (by omega) (by omega) (fun j j0 j1 => by
              have : j = 8 * a + b := by omega
              rw [this]
              exact decide_eq_false (fun q => by have := q.2.2; omega)) hst)⟩⟩
          have hnew : newB (vm m) (8 * a + b) = true := decide_eq_true ⟨by omega, by omega, by omega⟩
          have hFb := Fb a b a0' (by omega) (by omega) (by omega)
          have heF := eF a b a0' (by omega) (by omega) (by omega)
          obtain ⟨w1, w2⟩ := hq
          rw [evx] at w1
          have hx1 : Fr x1 := by
            rw [hFr] at hx ⊢
            exact ⟨fun z z0 z6 z9 => by rw [w2 z z6, hx.1 z z0 z6 z9], by rw [w2 201 (by omega), hx.2.1], by rw [w2 201 (by omega), hx.2.2.1], by rw [w2 201 (by omega), hx.2.2.2]⟩
          have x1f : x1 201 = x 201 := w2 201 (by omega)
          have pb : (-1 ≤ p1 ∧ p1 < 8) ∧ -1 ≤ p2 ∧ p2 < 8 := by
            rw [hSt] at hst
            rcases hst with h | h <;> omega
          -- behind the lane
          have last : ∀ y : Mem, Fr y → y 201 = x 201 → (∀ c d : Int, 0 ≤ c → c < vm m 0 0 → 0 ≤ d → d < vm m 0 0 → Wm y c d = widV (wayV (vm m)) a b k c d) → V_X11_open R 138 [(0, kR 201), (2, kI k), (3, kI w), (4, kI p1), (5, kI p2), (6, kI a), (7, kI b)] y := by
            intro y hy y201 hW
            obtain ⟨mby, evy, y13, cry, _⟩ := frB y hy
            have sw : sameW (widV (wayV (vm m)) a b k) (Wm y) (awayV (vm m)) := fun c d c0 c1 hc d0 d1 hd => by
              have h2 := away_in ok d d0 d1 hd
              refine (hW c d c0 ?_ d0 h2).symm
              rcases hc with e | e
              · omega
              · exact away_in ok c c0 c1 e
            have gp : GPm y (awayV (vm m)) := ⟨away_bd ok, cg, cry, GW_W sw (gwid a b a0' (by omega) (by omega) (by omega))⟩
            refine vc_X11_open_138 ⟨⟨rfl, _, gp⟩, fun z rv q => ?_⟩
            obtain ⟨_, q2, q3, q4⟩ := q
            obtain ⟨gq, _⟩ := q2 _ gp
            rw [← gv_congr cg.2 sw] at gq
            rw [gq] at heF
            have e27 : z 201 27 = (F (8 * a + b)).1 := by rw [heF]; rfl
            have e28 : z 201 28 = (F (8 * a + b)).2 := by rw [heF]; rfl
            have e47 : z 201 47 = x 201 47 := by rw [q3 47 (by decide), y201]
            have e48 : z 201 48 = x 201 48 := by rw [q3 48 (by decide), y201]
            have hz : Fr z := by
              rw [hFr] at hy ⊢
              exact ⟨fun u u0 u6 u9 => by rw [q4 u u0 u9, hy.1 u u0 u6 u9], by rw [q3 12 (by decide), hy.2.1], by rw [q3 13 (by decide), hy.2.2.1], by rw [q3 14 (by decide), hy.2.2.2]⟩
            have fz : ∀ z' : Mem, (∀ g : Int, g ≠ 47 → g ≠ 48 → z' 201 g = z 201 g) → (∀ u : Int, u ≠ 201 → z' u = z u) → Fr z' := fun z' g1 g2 => by
              rw [hFr] at hz ⊢
              exact ⟨fun u u0 u6 u9 => by rw [g2 u u0, hz.1 u u0 u6 u9], by rw [g1 12 (by omega) (by omega), hz.2.1], by rw [g1 13 (by omega) (by omega), hz.2.2.1], by rw [g1 14 (by omega) (by omega), hz.2.2.2]⟩
            have ms := mnR_s (q := newB (vm m)) (f := F) (n := 8 * a + b) (by omega)
            have hst' := hst
            rw [hSt] at hst'
            have put : ∀ z' : Mem, ((mnR (newB (vm m)) F (8 * a + b)).2 < 0 ∨ (F (8 * a + b)).1 * (mnR (newB (vm m)) F (8 * a + b)).1.2 < (mnR (newB (vm m)) F (8 * a + b)).1.1 * (F (8 * a + b)).2) → z' 201 47 = (F (8 * a + b)).1 → z' 201 48 = (F (8 * a + b)).2 → St (8 * a + (b + 1)) a b z' := fun z' hc h1 h2 => by
              rw [hSt, show 8 * a + (b + 1) = 8 * a + b + 1 by omega, ms, if_pos ⟨hnew, hc⟩]
              exact Or.inr ⟨by show 0 ≤ 8 * a + b ∧ 8 * a + b < 64; omega, ⟨by show a = (8 * a + b) / 8; omega, by show b = (8 * a + b) % 8; omega⟩, ⟨h1, h2⟩, hFb⟩
            refine ⟨rr (by omega), fun c0 => ⟨⟨rfl, Or.inl rfl, ?_, ?_, fun _ => ?_⟩, fun z' rv' q => ?_⟩, fun c0 => ⟨⟨rfl, Or.inr rfl, ?_, ?_, fun q => absurd q (by omega)⟩, fun z' rv' q => ?_⟩⟩
            · rw [e27]; omega
            · rw [e28]; omega
            · rcases hst' with h | ⟨h1, h2, h3, h4, h5⟩
              · omega
              · rw [e47, e48, h3.1, h3.2]; omega
            · rcases hst' with h | ⟨h1, h2, h3, h4, h5⟩
              · omega
              · obtain ⟨q, qf, qz⟩ := q
                rw [e27, e28, e47, e48, h3.1, h3.2] at q
                rcases q with ⟨e, hc, y1, y2⟩ | ⟨e, _, hc, y1, y2⟩
                · subst e
                  exact ⟨rr (by omega), fun _ => ihb z' a b (fz z' qf qz) (put z' (Or.inr (by rcases hc with v | v; exact absurd v (by omega); exact v)) y1 y2), fun v => absurd (show ¬ (1 : Int) = 0 by omega) v⟩
                · subst e
                  refine ⟨rr (by omega), fun v => absurd rfl v, fun _ => ihb z' p1 p2 (fz z' qf qz) ?_⟩
                  rw [hSt, show 8 * a + (b + 1) = 8 * a + b + 1 by omega, ms, if_neg (fun v => by rcases v.2 with v | v; omega; exact hc v)]
                  exact Or.inr ⟨h1, h2, ⟨y1, y2⟩, h4, h5⟩
            · rw [e27]; omega
            · rw [e28]; omega
            · obtain ⟨q, qf, qz⟩ := q
              rcases q with ⟨e, hc, y1, y2⟩ | ⟨_, e, _⟩
              · subst e
                exact ⟨rr (by omega), fun _ => ihb z' a b (fz z' qf qz) (put z' (Or.inl (by rcases hst' with h | h <;> omega)) (by rw [y1, e27]) (by rw [y2, e28])), fun v => absurd (show ¬ (1 : Int) = 0 by omega) v⟩
              · omega
          have wab := w1 a b a0' (by omega) (by omega) (by omega)
          have wba := way_sym ok a0' (by omega : a < vm m 0 0) (by omega : 0 ≤ b) (by omega : b < vm m 0 0)
          have wok := way_ok vok a0' (by omega : a < vm m 0 0) (by omega : 0 ≤ b) (by omega : b < vm m 0 0)
          refine vc_X11_open_89 ?_
          rw [wab]
          refine ⟨by omega, r_k, rr (by omega), fun c => last x1 hx1 x1f (fun p q p0 p1 q0 q1 => ?_), fun c => ⟨by omega, vc_X11_open_120 ⟨by omega, vc_X11_open_134 ?_⟩⟩⟩
          · unfold Wm
            rw [w1 p q p0 p1 q0 q1]
            exact (lane_near vok c a0' (by omega) (by omega) (by omega) p0 p1 q0 q1).symm
          · obtain ⟨y, ey⟩ : ∃ y, y = updm (updm x1 206 (8 * a + b) k) 206 (8 * b + a) k := ⟨_, rfl⟩
            rw [← ey]
            have ey201 : y 201 = x1 201 := by rw [ey, ru_ne (by omega), ru_ne (by omega)]
            have hy : Fr y := by
              rw [hFr] at hx1 ⊢
              exact ⟨fun z z0 z6 z9 => by rw [ey, ru_ne z6, ru_ne z6, hx1.1 z z0 z6 z9], by rw [ey201, hx1.2.1], by rw [ey201, hx1.2.2.1], by rw [ey201, hx1.2.2.2]⟩
            obtain ⟨mby, evy, y13, _, _⟩ := frB y hy
            have hh := lane_mem (m := y) w1 (show k < wayV (vm m) a b by omega) (by omega) (by omega) a0' (by omega) (by omega) (by omega) (by omega) (show y 206 = upd1 (upd1 (x1 206) (8 * a + b) k) (8 * b + a) k by rw [ey, ru_eq, ru_eq])
            obtain ⟨Mt, hMt, eMt⟩ := laneT_ok vok dk.1.1 a0' (by omega : a < vm m 0 0) (by omega : 0 ≤ b) (by omega : b < vm m 0 0) (by omega)
            have hh2 : Holds2 y 206 (y 201 13) Mt := fun p q p0 p1 q0 q1 => by
              rw [y13] at p1 q1
              rw [hh p q p0 p1 q0 q1, eMt p q p0 p1 q0 q1]
            refine ⟨⟨rfl, by omega, Mt, hh2, hMt⟩, fun z hz => last z ?_ ?_ (fun p q p0 p1 q0 q1 => ?_)⟩
            · rw [hFr] at hy ⊢
              exact ⟨fun u u0 u6 u9 => by rw [hz.2 u u6, hy.1 u u0 u6 u9], by rw [hz.2 201 (by omega), hy.2.1], by rw [hz.2 201 (by omega), hy.2.2.1], by rw [hz.2 201 (by omega), hy.2.2.2]⟩
            · rw [hz.2 201 (by omega), ey201, x1f]
            · have := hz.1 Mt hh2 hMt
              rw [y13] at this
              unfold Wm
              rw [this p q p0 p1 q0 q1, fw_congr eMt (vm m 0 0) (by omega) (Int.le_refl _) p q p0 p1 q0 q1]
              exact lane_far vok dk.1.1 a0' (by omega) (by omega) (by omega) (by omega) p0 p1 q0 q1
        · intro x p1 p2 hx hst
          obtain ⟨_, _, x13, _, _⟩ := frB x hx
          refine vc_X11_open_55 ?_
          rw [x13]
          exact ⟨rr (by omega), rr (by omega), fun _ => iha x p1 p2 hx (stT _ _ p1 p2 x (by omega) (by omega) (fun j j0 j1 => decide_eq_false (by omega)) hst), fun c => absurd (Int.le_refl _) c⟩
      · intro x p1 p2 hx hst
        obtain ⟨_, _, x13, _, akx⟩ := frB x hx
        rw [hSt] at hst
        refine vc_X11_open_40 ?_
        rw [x13]
        rcases hst with ⟨h1, h2, h3⟩ | ⟨h1, h2, h3, h4, h5⟩
        · exact ⟨rr (by omega), rr (by omega), fun _ => ⟨rr (by omega), fun q => absurd q (by omega), fun _ => fin x _ akx (if_neg (fun q => by have := q.2.2.2; omega)).symm⟩, fun q => absurd (Int.le_refl _) q⟩
        · rw [if_pos ⟨cg, dk.1, dk.2, h1.1⟩] at fin
          refine ⟨rr (by omega), rr (by omega), fun _ => ⟨rr (by omega), fun _ => ⟨r_w, fun c1 => ⟨r_w, fun c2 => ⟨r_w, fun c3 => fin x _ akx ?_, fun c3 => fin x _ akx ?_⟩, fun c2 => ⟨rr (by omega), fin x _ akx ?_⟩⟩, fun c1 => ⟨rr (by omega), fin x _ akx ?_⟩⟩, fun q => absurd (by omega) q⟩, fun q => absurd (Int.le_refl _) q⟩
          · rw [if_neg c1, if_neg c2, if_neg c3, h3.2]
          · rw [if_neg c1, if_neg c2, if_pos (Classical.not_not.mp c3), h3.1]
          · rw [if_neg c1, if_pos (Classical.not_not.mp c2), h2.2]
          · rw [if_pos (Classical.not_not.mp c1), h2.1]
  · have e := q3 c
    subst e
    exact ⟨rr (by omega), fun q => absurd rfl q, fun _ => hR m _ ⟨ask, (onM_no c).symm⟩⟩
theorem ct_X11_open : Ct mX11_open 6 145 0 0 (nrmS S_X11_open) := by
  refine ct_vm (own := RX11) (by decide +kernel) rfl ?_ ?_
  · intro as μ Q hS
    unfold S_X11_open at hS
    split at hS
    · exact Nat.le_of_ble_eq_true rfl
    · exact hS.elim
  · intro as μ R hS
    unfold S_X11_open at hS
    split at hS
    · exact body_X11_open hS.1 hS.2
    · exact hS.elim
