def P_X9_townAt (w n : Int) (μ : Mem) : Prop := isW w ∧ r32 n ∧ (0 ≤ μ w 5 ∧ μ w 5 ≤ 3)
def Q_X9_townAt (w n : Int) (μ : Mem) (r : Int) : Prop := (0 ≤ n ∧ n < μ w 5 → r = w + 3 + 10 * n) ∧ (¬ (0 ≤ n ∧ n < μ w 5) → r = -1) ∧ (¬ r < 0 → isT r)
theorem isW_pos {w : Int} (h : isW w) : 0 ≤ w := (isW_C h).1.1
theorem isW_T {w n : Int} (h : isW w) (h0 : 0 ≤ n) (h1 : n < 3) : isT (w + 3 + 10 * n) := by
  have := tw_town (W_towns h) h0 h1
  rwa [show w + 2 + 1 + 10 * n = w + 3 + 10 * n by omega] at this
def S_X9_townAt : S0t := fun as μ Q => match as with
  | [(2, x0), (0, x1)] => P_X9_townAt x0 x1 μ ∧ ∀ (r : Int), Q_X9_townAt x0 x1 μ r → Q μ (some (kR r))
  | _ => False
theorem mono_X9_townAt : Mono S_X9_townAt := by
  intro as μ Q Q' h hS
  unfold S_X9_townAt at hS ⊢
  split at hS
  · exact ⟨hS.1, fun r q => h _ _ (hS.2 _ q)⟩
  · exact hS.elim
def iX9_townAt : Inf := (kX9_townAt, fTX9, pTX9, cTX9, lTX9, sTX9, [])
theorem ok_X9_townAt : infOK iX9_townAt mX9_townAt RX9 0 0 := ⟨kkX9_townAt, fTX9_ok, pTX9_ok _, cTX9_ok, lTX9_ok, sTX9_ok, c_nil⟩
theorem mt_X9_townAt : mtOK [] RX9 0 0 := mt_nil
abbrev V_X9_townAt (R : Mem → Option AV → Prop) (pc : Nat) (lc : List (Nat × AV)) (μ : Mem) : Prop := VM mX9_townAt RX9 0 0 R pc lc [] μ
set_option maxRecDepth 20000 in
theorem vc_X9_townAt_0 {R : Mem → Option AV → Prop} {n w : Int} {μ : Mem} (hw : isW w) (H : r32 n ∧ ((n < 0) → R μ (some (kR ((-1))))) ∧ (¬ (n < 0) → r32 n ∧ r32 (μ w 5) ∧ (((μ w 5) ≤ n) → R μ (some (kR ((-1))))) ∧ (¬ ((μ w 5) ≤ n) → r32 n ∧ (((3 : Int) ≤ n) → R μ (some (kR ((-1))))) ∧ (¬ ((3 : Int) ≤ n) → (0 ≤ n ∧ n < 3) ∧ R μ (some (kR (w + 2 + 1 + 10 * n))))))) : V_X9_townAt R 0 [(0, kR w), (1, kI n)] μ := by
  refine vm_step2 mt_X9_townAt ok_X9_townAt [] 1000 ?_
  show r32 n ∧ ((n < 0) → R μ (some (kR ((-1))))) ∧ (¬ (n < 0) → isC w 9 ∧ (r32 n ∧ r32 (μ w 5)) ∧ (((μ w 5) ≤ n) → R μ (some (kR ((-1))))) ∧ (¬ ((μ w 5) ≤ n) → (r32 n ∧ r32 (3 : Int)) ∧ (((3 : Int) ≤ n) → R μ (some (kR ((-1))))) ∧ (¬ ((3 : Int) ≤ n) → isC w 9 ∧ ((inA (w + 2) 4 n ∧ R μ (some (kR (w + 2 + 1 + 10 * n)))) ∨ _))))
  exact ⟨H.1, fun hc4 => (H.2.1 hc4), fun hc4 => ⟨isW_C hw, ⟨⟨(H.2.2 hc4).1, (H.2.2 hc4).2.1⟩, fun hc3 => ((H.2.2 hc4).2.2.1 hc3), fun hc3 => ⟨⟨((H.2.2 hc4).2.2.2 hc3).1, by unfold r32; omega⟩, fun hc2 => (((H.2.2 hc4).2.2.2 hc3).2.1 hc2), fun hc2 => ⟨isW_C hw, Or.inl ⟨isArr.in (W_towns hw) (((H.2.2 hc4).2.2.2 hc3).2.2 hc2).1.1 (((H.2.2 hc4).2.2.2 hc3).2.2 hc2).1.2, have hj1 := tw_town (W_towns hw) (((H.2.2 hc4).2.2.2 hc3).2.2 hc2).1.1 (((H.2.2 hc4).2.2.2 hc3).2.2 hc2).1.2; (((H.2.2 hc4).2.2.2 hc3).2.2 hc2).2⟩⟩⟩⟩⟩⟩
theorem body_X9_townAt {w n : Int} {μ : Mem} {R : Mem → Option AV → Prop} (h : P_X9_townAt w n μ) (hR : ∀ r : Int, Q_X9_townAt w n μ r → R μ (some (kR r))) : V_X9_townAt R 0 [(0, kR w), (1, kI n)] μ := by
  obtain ⟨hw, hn, hc⟩ := h
  have h0 := isW_pos hw
  refine vc_X9_townAt_0 hw ⟨hn, fun c => hR (-1) ⟨fun q => absurd q (by omega), fun _ => rfl, fun q => absurd q (by omega)⟩, fun c => ⟨hn, rr (by omega), fun c2 => hR (-1) ⟨fun q => absurd q (by omega), fun _ => rfl, fun q => absurd q (by omega)⟩, fun c2 => ⟨hn, fun c3 => absurd c3 (by omega), fun c3 => ⟨by omega, ?_⟩⟩⟩⟩
  refine hR _ ⟨fun _ => by omega, fun q => absurd ⟨by omega, by omega⟩ q, fun _ => ?_⟩
  have := isW_T hw (n := n) (by omega) (by omega)
  rwa [show w + 2 + 1 + 10 * n = w + 3 + 10 * n by omega]
theorem ct_X9_townAt : Ct mX9_townAt 0 0 0 0 (nrmS S_X9_townAt) := by
  refine ct_vm (own := RX9) (by decide +kernel) rfl ?_ ?_
  · intro as μ Q hS
    unfold S_X9_townAt at hS
    split at hS
    · exact Nat.le_of_ble_eq_true rfl
    · exact hS.elim
  · intro as μ R hS
    unfold S_X9_townAt at hS
    split at hS
    · exact body_X9_townAt hS.1 hS.2
    · exact hS.elim
def byteV (k s : Int) : Int := Int.bmod (bshr k s) 256
theorem byteV_bd (k s : Int) : -128 ≤ byteV k s ∧ byteV k s ≤ 127 := by
  unfold byteV
  rw [Int.bmod_def]
  omega
def P_X9_append (w _ : Int) (μ : Mem) : Prop := isW w ∧ (0 ≤ μ w 2 ∧ μ w 2 ≤ 496)
/-- four bytes more -/
def Q_X9_append (w k : Int) (μ μ' : Mem) : Prop := μ' w = upd1 (μ w) 2 (μ w 2 + 4) ∧ μ' (w + 1) = upd1 (upd1 (upd1 (upd1 (μ (w + 1)) (μ w 2) (byteV k 24)) (μ w 2 + 1) (byteV k 16)) (μ w 2 + 2) (byteV k 8)) (μ w 2 + 3) (byteV k 0) ∧ ∀ z : Int, z ≠ w → z ≠ w + 1 → μ' z = μ z
theorem upd1_2 {f : Int → Int} {j x z : Int} : upd1 (upd1 f j x) j z = upd1 f j z := by
  funext i
  unfold upd1
  by_cases h : i = j <;> simp [h]
def S_X9_append : S0t := fun as μ Q => match as with
  | [(2, x0), (0, x1)] => P_X9_append x0 x1 μ ∧ ∀ (μ' : Mem) , Q_X9_append x0 x1 μ μ'  → Q μ' none
  | _ => False
theorem mono_X9_append : Mono S_X9_append := by
  intro as μ Q Q' h hS
  unfold S_X9_append at hS ⊢
  split at hS
  · exact ⟨hS.1, fun μ' q => h _ _ (hS.2 _ q)⟩
  · exact hS.elim
def iX9_append : Inf := (kX9_append, fTX9, pTX9, cTX9, lTX9, sTX9, [])
theorem ok_X9_append : infOK iX9_append mX9_append RX9 0 0 := ⟨kkX9_append, fTX9_ok, pTX9_ok _, cTX9_ok, lTX9_ok, sTX9_ok, c_nil⟩
theorem mt_X9_append : mtOK [] RX9 0 0 := mt_nil
abbrev V_X9_append (R : Mem → Option AV → Prop) (pc : Nat) (lc : List (Nat × AV)) (μ : Mem) : Prop := VM mX9_append RX9 0 0 R pc lc [] μ
set_option maxRecDepth 20000 in
theorem vc_X9_append_0 {R : Mem → Option AV → Prop} {k w : Int} {μ : Mem} (hw : isW w) (H : V_X9_append R 3 [(0, kR w), (1, kI k), (2, kI 24)] μ) : V_X9_append R 0 [(0, kR w), (1, kI k)] μ := by
  refine vm_step2 mt_X9_append ok_X9_append [(3, [0, 1, 2])] 1000 ?_
  show V_X9_append R 3 [(0, kR w), (1, kI k), (2, kI 24)] μ
  exact H
set_option maxRecDepth 20000 in
theorem vc_X9_append_3 {R : Mem → Option AV → Prop} {k s w : Int} {μ : Mem} (hw : isW w) (H : r32 s ∧ ((s < 0) → R μ none) ∧ (¬ (s < 0) → r32 (μ w 2) ∧ (((500 : Int) ≤ (μ w 2)) → R μ none) ∧ (¬ ((500 : Int) ≤ (μ w 2)) → (0 ≤ (μ w 2) ∧ (μ w 2) < 500) ∧ (-128 ≤ (Int.bmod (bshr k s) 256) ∧ (Int.bmod (bshr k s) 256) ≤ 127) ∧ V_X9_append R 3 [(0, kR w), (1, kI k), (2, kI (s + (-8)))] (updm (updm μ (w + 1) (μ w 2) (Int.bmod (bshr k s) 256)) w 2 (((updm μ (w + 1) (μ w 2) (Int.bmod (bshr k s) 256)) w 2) + 1))))) : V_X9_append R 3 [(0, kR w), (1, kI k), (2, kI s)] μ := by
  refine vm_step2 mt_X9_append ok_X9_append [(3, [0, 1, 2])] 1000 ?_
  show r32 s ∧ ((s < 0) → R μ none) ∧ (¬ (s < 0) → isC w 9 ∧ (r32 (μ w 2) ∧ r32 (500 : Int)) ∧ (((500 : Int) ≤ (μ w 2)) → R μ none) ∧ (¬ ((500 : Int) ≤ (μ w 2)) → isC w 9 ∧ isC w 9 ∧ ((inA (w + 1) 2 (μ w 2) ∧ -128 ≤ (Int.bmod (bshr k s) 256) ∧ (Int.bmod (bshr k s) 256) ≤ 127) ∨ (inA (w + 1) 3 (μ w 2) ∧ 0 ≤ (Int.bmod (bshr k s) 256) ∧ (Int.bmod (bshr k s) 256) ≤ 1)) ∧ isC w 9 ∧ isC w 9 ∧ 0 = 0 ∧ True ∧ V_X9_append R 3 [(0, kR w), (1, kI k), (2, kI (s + (-8)))] (updm (updm μ (w + 1) (μ w 2) (Int.bmod (bshr k s) 256)) w 2 (((updm μ (w + 1) (μ w 2) (Int.bmod (bshr k s) 256)) w 2) + 1))))
  exact ⟨H.1, fun hc2 => (H.2.1 hc2), fun hc2 => ⟨isW_C hw, ⟨⟨(H.2.2 hc2).1, by unfold r32; omega⟩, fun hc1 => ((H.2.2 hc2).2.1 hc1), fun hc1 => ⟨isW_C hw, ⟨isW_C hw, ⟨Or.inl ⟨isArr.in (W_tape hw) ((H.2.2 hc2).2.2 hc1).1.1 ((H.2.2 hc2).2.2 hc1).1.2, ((H.2.2 hc2).2.2 hc1).2.1⟩, ⟨isW_C hw, ⟨isW_C hw, rfl, trivial, ((H.2.2 hc2).2.2 hc1).2.2⟩⟩⟩⟩⟩⟩⟩⟩
theorem body_X9_append {w k : Int} {μ : Mem} {R : Mem → Option AV → Prop} (h : P_X9_append w k μ) (hR : ∀ μ' : Mem, Q_X9_append w k μ μ' → R μ' none) : V_X9_append R 0 [(0, kR w), (1, kI k)] μ := by
  obtain ⟨hw, h2⟩ := h
  have step : ∀ (s L : Int) (f : Int → Int) (μ1 : Mem), 0 ≤ s → s ≤ 24 → 0 ≤ L → L < 500 → μ1 w = upd1 (μ w) 2 L → μ1 (w + 1) = f → (∀ z : Int, z ≠ w → z ≠ w + 1 → μ1 z = μ z) →
      (∀ μ2 : Mem, μ2 w = upd1 (μ w) 2 (L + 1) → μ2 (w + 1) = upd1 f L (byteV k s) → (∀ z : Int, z ≠ w → z ≠ w + 1 → μ2 z = μ z) → V_X9_append R 3 [(0, kR w), (1, kI k), (2, kI (s + (-8)))] μ2) → V_X9_append R 3 [(0, kR w), (1, kI k), (2, kI s)] μ1 := by
    intro s L f μ1 s0 s1 l0 l1 e1 e2 hf nx
    have eL : μ1 w 2 = L := by rw [e1, r1_eq]
    refine vc_X9_append_3 hw ?_
    rw [eL]
    refine ⟨rr (by omega), fun c => absurd c (by omega), fun _ => ⟨rr (by omega), fun c => absurd c (by omega), fun _ => ⟨⟨l0, l1⟩, byteV_bd k s, ?_⟩⟩⟩
    refine nx _ ?_ ?_ (fun z z0 z1 => ?_)
    · rw [ru_eq, ru_ne (by omega), e1, r1_eq, upd1_2]
    · rw [ru_ne (by omega), ru_eq, e2]; rfl
    · rw [ru_ne z0, ru_ne z1]; exact hf z z0 z1
  refine vc_X9_append_0 hw ?_
  refine step 24 (μ w 2) (μ (w + 1)) μ (by omega) (by omega) (by omega) (by omega) ?_ rfl (fun _ _ _ => rfl) (fun m1 a1 b1 c1 => ?_)
  · funext j
    by_cases hj : j = 2
    · rw [hj, r1_eq]
    · rw [r1_ne hj]
  refine step 16 (μ w 2 + 1) _ m1 (by omega) (by omega) (by omega) (by omega) a1 b1 c1 (fun m2 a2 b2 c2 => ?_)
  refine step 8 (μ w 2 + 1 + 1) _ m2 (by omega) (by omega) (by omega) (by omega) a2 b2 c2 (fun m3 a3 b3 c3 => ?_)
  refine step 0 (μ w 2 + 1 + 1 + 1) _ m3 (by omega) (by omega) (by omega) (by omega) a3 b3 c3 (fun m4 a4 b4 c4 => ?_)
  have x1 : μ w 2 + 1 + 1 = μ w 2 + 2 := by omega
  have x2 : μ w 2 + 2 + 1 = μ w 2 + 3 := by omega
  have x3 : μ w 2 + 3 + 1 = μ w 2 + 4 := by omega
  refine vc_X9_append_3 hw ⟨rr (by omega), fun _ => hR m4 ⟨?_, ?_, c4⟩, fun c => absurd c (by omega)⟩
  · rw [a4, x1, x2, x3]
  · rw [b4, x1, x2]
theorem ct_X9_append : Ct mX9_append 0 0 0 0 (nrmS S_X9_append) := by
  refine ct_vm (own := RX9) (by decide +kernel) rfl ?_ ?_
  · intro as μ Q hS
    unfold S_X9_append at hS
    split at hS
    · exact Nat.le_of_ble_eq_true rfl
    · exact hS.elim
  · intro as μ R hS
    unfold S_X9_append at hS
    split at hS
    · exact body_X9_append hS.1 hS.2
    · exact hS.elim
/-- a world's objects hold what another's held -/
def WCopy (μ μ' : Mem) (w z : Int) : Prop := (∀ k : Int, 2 ≤ k → k ≤ 10 → μ' w k = μ z k) ∧ (∀ j : Int, 0 ≤ j → j < 500 → μ' (w + 1) j = μ (z + 1) j) ∧ ∀ i : Int, 0 ≤ i → i < 3 → TCopy μ μ' (w + 3 + 10 * i) (z + 3 + 10 * i)
theorem worlds_apart {t u : Int} (ht : isW t) (hu : isW u) (h : t ≠ u) : t + 33 ≤ u ∨ u + 33 ≤ t := by
  have key : ∀ t ∈ ([1, 35, 68, 101] : List Int), ∀ u ∈ ([1, 35, 68, 101] : List Int), t ≠ u → t + 33 ≤ u ∨ u + 33 ≤ t := by decide +kernel
  exact key t ht u hu h
theorem TCopy.of {m0 m1 μ μ' : Mem} {t u : Int} (h : TCopy m0 m1 t u) (h0 : ∀ z : Int, u ≤ z → z ≤ u + 9 → m0 z = μ z) (h1 : ∀ z : Int, t ≤ z → z ≤ t + 9 → μ' z = m1 z) : TCopy μ μ' t u := by
  obtain ⟨c1, c2, c3, c4, c5⟩ := h
  refine ⟨fun k hk => ?_, fun j j0 j1 => ⟨?_, ?_⟩, fun j j0 j1 => ⟨?_, ?_, ?_, ?_, ?_⟩, fun j j0 j1 => ?_, fun j j0 j1 => ?_⟩
  · rw [h1 t (by omega) (by omega), c1 k hk, h0 u (by omega) (by omega)]
  · rw [h1 _ (by omega) (by omega), (c2 j j0 j1).1, h0 _ (by omega) (by omega)]
  · rw [h1 _ (by omega) (by omega), (c2 j j0 j1).2, h0 _ (by omega) (by omega)]
  · rw [h1 _ (by omega) (by omega), (c3 j j0 j1).1, h0 _ (by omega) (by omega)]
  · rw [h1 _ (by omega) (by omega), (c3 j j0 j1).2.1, h0 _ (by omega) (by omega)]
  · rw [h1 _ (by omega) (by omega), (c3 j j0 j1).2.2.1, h0 _ (by omega) (by omega)]
  · rw [h1 _ (by omega) (by omega), (c3 j j0 j1).2.2.2.1, h0 _ (by omega) (by omega)]
  · rw [h1 _ (by omega) (by omega), (c3 j j0 j1).2.2.2.2, h0 _ (by omega) (by omega)]
  · rw [h1 _ (by omega) (by omega), c4 j j0 j1, h0 _ (by omega) (by omega)]
  · rw [h1 _ (by omega) (by omega), c5 j j0 j1, h0 _ (by omega) (by omega)]
def P_X9_copyFrom (w z : Int) (μ : Mem) : Prop := isW w ∧ isW z ∧ w ≠ z ∧ ∀ j : Int, 0 ≤ j → j < 500 → -128 ≤ μ (z + 1) j ∧ μ (z + 1) j ≤ 127
def Q_X9_copyFrom (w z : Int) (μ μ' : Mem) : Prop := WCopy μ μ' w z ∧ Same μ μ' w (w + 32)
def S_X9_copyFrom : S0t := fun as μ Q => match as with
  | [(2, x0), (2, x1)] => P_X9_copyFrom x0 x1 μ ∧ ∀ (μ' : Mem) , Q_X9_copyFrom x0 x1 μ μ'  → Q μ' none
  | _ => False
theorem mono_X9_copyFrom : Mono S_X9_copyFrom := by
  intro as μ Q Q' h hS
  unfold S_X9_copyFrom at hS ⊢
  split at hS
  · exact ⟨hS.1, fun μ' q => h _ _ (hS.2 _ q)⟩
  · exact hS.elim
def iX9_copyFrom : Inf := (kX9_copyFrom, fTX9, pTX9, cTX9, lTX9, sTX9, [(26, 2, 0, 2, S_copy), (32, 0, 1, 7, S_X7_copyFrom)])
theorem ok_X9_copyFrom : infOK iX9_copyFrom mX9_copyFrom RX9 2 81 := ⟨kkX9_copyFrom, fTX9_ok, pTX9_ok _, cTX9_ok, lTX9_ok, sTX9_ok, c_cons ⟨by decide, AC_X9_26, AC1, AC2, AC3, by decide, by decide⟩ (c_cons ⟨mX7_copyFrom, 1, 60, ct_X7_copyFrom, mmX7_copyFrom, vvX7_copyFrom, lkX9_32, ⟨by decide, by decide⟩, ⟨_, _, rfl⟩, by decide, mono_X7_copyFrom⟩ (c_nil))⟩
theorem mt_X9_copyFrom : mtOK [] RX9 2 81 := mt_nil
abbrev V_X9_copyFrom (R : Mem → Option AV → Prop) (pc : Nat) (lc : List (Nat × AV)) (μ : Mem) : Prop := VM mX9_copyFrom RX9 2 81 R pc lc [] μ
set_option maxRecDepth 20000 in
theorem vc_X9_copyFrom_0 {R : Mem → Option AV → Prop} {w z : Int} {μ : Mem} (hw : isW w) (hz : isW z) (H : (∀ j : Int, 0 ≤ j → j < (500 : Int) → -128 ≤ μ (z + 1) j ∧ μ (z + 1) j ≤ 127) ∧ V_X9_copyFrom R 16 [(0, kR w), (1, kR z)] (seto μ (w + 1) (cpy0 (μ (z + 1)) (μ (w + 1)) 500))) : V_X9_copyFrom R 0 [(0, kR w), (1, kR z)] μ := by
  refine vm_step2 mt_X9_copyFrom ok_X9_copyFrom [(16, [0, 1]), (18, [0, 1, 2]), (53, [0, 1, 2]), (67, [0, 1]), (75, [0, 1]), (83, [0, 1]), (91, [0, 1]), (99, [0, 1]), (107, [0, 1]), (115, [0, 1]), (123, [0, 1])] 1000 ?_
  show isC z 9 ∧ isC w 9 ∧ ((0 : Int) = 0 ∧ (0 : Int) = 0) ∧ ((0 ≤ (z + 1) ∧ (z + 1) < 232) ∧ (LAY (z + 1).toNat).1 = 2) ∧ ((0 ≤ (w + 1) ∧ (w + 1) < 232) ∧ (LAY (w + 1).toNat).1 = 2) ∧ (0 ≤ (500 : Int) ∧ (500 : Int) ≤ ((LAY ((z + 1)).toNat).2 : Int) ∧ (500 : Int) ≤ ((LAY ((w + 1)).toNat).2 : Int)) ∧ (2 = 2 → ∀ j : Int, 0 ≤ j → j < (500 : Int) → -128 ≤ μ (z + 1) j ∧ μ (z + 1) j ≤ 127) ∧ V_X9_copyFrom R 16 [(0, kR w), (1, kR z)] (seto μ (w + 1) (cpy0 (μ (z + 1)) (μ (w + 1)) 500))
  exact ⟨isW_C hz, ⟨isW_C hw, ⟨⟨rfl, rfl⟩, ⟨(W_tape hz).1, (W_tape hz).k1⟩, ⟨(W_tape hw).1, (W_tape hw).k1⟩, cpl (W_tape hz) (W_tape hw) (⟨by omega, by omega⟩ : 0 ≤ (500 : Int) ∧ (500 : Int) ≤ 500) (by decide) (by decide), fun _ => H.1, H.2⟩⟩⟩
set_option maxRecDepth 20000 in
theorem vc_X9_copyFrom_16 {R : Mem → Option AV → Prop} {w z : Int} {μ : Mem} (hw : isW w) (hz : isW z) (H : V_X9_copyFrom R 18 [(0, kR w), (1, kR z), (2, kI 0)] μ) : V_X9_copyFrom R 16 [(0, kR w), (1, kR z)] μ := by
  refine vm_step2 mt_X9_copyFrom ok_X9_copyFrom [(16, [0, 1]), (18, [0, 1, 2]), (53, [0, 1, 2]), (67, [0, 1]), (75, [0, 1]), (83, [0, 1]), (91, [0, 1]), (99, [0, 1]), (107, [0, 1]), (115, [0, 1]), (123, [0, 1])] 1000 ?_
  show V_X9_copyFrom R 18 [(0, kR w), (1, kR z), (2, kI 0)] μ
  exact H
set_option maxRecDepth 20000 in
theorem vc_X9_copyFrom_18 {R : Mem → Option AV → Prop} {i w z : Int} {μ : Mem} (hw : isW w) (hz : isW z) (H : r32 i ∧ (((3 : Int) ≤ i) → V_X9_copyFrom R 67 [(0, kR w), (1, kR z)] (updm μ w 2 (μ z 2))) ∧ (¬ ((3 : Int) ≤ i) → (0 ≤ i ∧ i < 3) ∧ (0 ≤ i ∧ i < 3) ∧ P_X7_copyFrom (w + 2 + 1 + 10 * i) (z + 2 + 1 + 10 * i) μ ∧ (∀ (μ3 : Mem), Q_X7_copyFrom (w + 2 + 1 + 10 * i) (z + 2 + 1 + 10 * i) μ μ3 → V_X9_copyFrom R 53 [(0, kR w), (1, kR z), (2, kI i)] μ3))) : V_X9_copyFrom R 18 [(0, kR w), (1, kR z), (2, kI i)] μ := by
  refine vm_step2 mt_X9_copyFrom ok_X9_copyFrom [(16, [0, 1]), (18, [0, 1, 2]), (53, [0, 1, 2]), (67, [0, 1]), (75, [0, 1]), (83, [0, 1]), (91, [0, 1]), (99, [0, 1]), (107, [0, 1]), (115, [0, 1]), (123, [0, 1])] 1000 ?_
  show (r32 i ∧ r32 (3 : Int)) ∧ (((3 : Int) ≤ i) → isC z 9 ∧ isC w 9 ∧ 0 = 0 ∧ True ∧ V_X9_copyFrom R 67 [(0, kR w), (1, kR z)] (updm μ w 2 (μ z 2))) ∧ (¬ ((3 : Int) ≤ i) → isC w 9 ∧ ((inA (w + 2) 4 i ∧ isC z 9 ∧ ((inA (z + 2) 4 i ∧ _ ∧ (¬ (w + 2 + 1 + 10 * i) < 0 → _ ∧ (¬ (z + 2 + 1 + 10 * i) < 0 → isC (w + 2 + 1 + 10 * i) 7 ∧ P_X7_copyFrom (w + 2 + 1 + 10 * i) (z + 2 + 1 + 10 * i) μ ∧ (∀ (μ3 : Mem), Q_X7_copyFrom (w + 2 + 1 + 10 * i) (z + 2 + 1 + 10 * i) μ μ3 → V_X9_copyFrom R 53 [(0, kR w), (1, kR z), (2, kI i)] μ3)))) ∨ _)) ∨ _))
  exact ⟨⟨H.1, by unfold r32; omega⟩, fun hc6 => ⟨isW_C hz, ⟨isW_C hw, rfl, trivial, (H.2.1 hc6)⟩⟩, fun hc6 => ⟨isW_C hw, Or.inl ⟨isArr.in (W_towns hw) (H.2.2 hc6).1.1 (H.2.2 hc6).1.2, have hj1 := tw_town (W_towns hw) (H.2.2 hc6).1.1 (H.2.2 hc6).1.2; ⟨isW_C hz, Or.inl ⟨isArr.in (W_towns hz) (H.2.2 hc6).2.1.1 (H.2.2 hc6).2.1.2, have hj2 := tw_town (W_towns hz) (H.2.2 hc6).2.1.1 (H.2.2 hc6).2.1.2; ⟨fun q => absurd q (Int.not_lt.mpr (isT_C hj1).1.1), fun _ => ⟨fun q => absurd q (Int.not_lt.mpr (isT_C hj2).1.1), fun _ => ⟨isT_C hj1, (H.2.2 hc6).2.2.1, fun μ3 hq5 => ((H.2.2 hc6).2.2.2 μ3 hq5)⟩⟩⟩⟩⟩⟩⟩⟩
set_option maxRecDepth 20000 in
theorem vc_X9_copyFrom_53 {R : Mem → Option AV → Prop} {i w z : Int} {μ : Mem} (hw : isW w) (hz : isW z) (H : V_X9_copyFrom R 18 [(0, kR w), (1, kR z), (2, kI (i + 1))] μ) : V_X9_copyFrom R 53 [(0, kR w), (1, kR z), (2, kI i)] μ := by
  refine vm_step2 mt_X9_copyFrom ok_X9_copyFrom [(16, [0, 1]), (18, [0, 1, 2]), (53, [0, 1, 2]), (67, [0, 1]), (75, [0, 1]), (83, [0, 1]), (91, [0, 1]), (99, [0, 1]), (107, [0, 1]), (115, [0, 1]), (123, [0, 1])] 1000 ?_
  show V_X9_copyFrom R 18 [(0, kR w), (1, kR z), (2, kI (i + 1))] μ
  exact H
set_option maxRecDepth 20000 in
theorem vc_X9_copyFrom_67 {R : Mem → Option AV → Prop} {w z : Int} {μ : Mem} (hw : isW w) (hz : isW z) (H : V_X9_copyFrom R 75 [(0, kR w), (1, kR z)] (updm μ w 3 (μ z 3))) : V_X9_copyFrom R 67 [(0, kR w), (1, kR z)] μ := by
  refine vm_step2 mt_X9_copyFrom ok_X9_copyFrom [(16, [0, 1]), (18, [0, 1, 2]), (53, [0, 1, 2]), (67, [0, 1]), (75, [0, 1]), (83, [0, 1]), (91, [0, 1]), (99, [0, 1]), (107, [0, 1]), (115, [0, 1]), (123, [0, 1])] 1000 ?_
  show isC z 9 ∧ isC w 9 ∧ 0 = 0 ∧ True ∧ V_X9_copyFrom R 75 [(0, kR w), (1, kR z)] (updm μ w 3 (μ z 3))
  exact ⟨isW_C hz, ⟨isW_C hw, rfl, trivial, H⟩⟩
set_option maxRecDepth 20000 in
theorem vc_X9_copyFrom_75 {R : Mem → Option AV → Prop} {w z : Int} {μ : Mem} (hw : isW w) (hz : isW z) (H : V_X9_copyFrom R 83 [(0, kR w), (1, kR z)] (updm μ w 4 (μ z 4))) : V_X9_copyFrom R 75 [(0, kR w), (1, kR z)] μ := by
  refine vm_step2 mt_X9_copyFrom ok_X9_copyFrom [(16, [0, 1]), (18, [0, 1, 2]), (53, [0, 1, 2]), (67, [0, 1]), (75, [0, 1]), (83, [0, 1]), (91, [0, 1]), (99, [0, 1]), (107, [0, 1]), (115, [0, 1]), (123, [0, 1])] 1000 ?_
  show isC z 9 ∧ isC w 9 ∧ 0 = 0 ∧ True ∧ V_X9_copyFrom R 83 [(0, kR w), (1, kR z)] (updm μ w 4 (μ z 4))
  exact ⟨isW_C hz, ⟨isW_C hw, rfl, trivial, H⟩⟩
set_option maxRecDepth 20000 in
theorem vc_X9_copyFrom_83 {R : Mem → Option AV → Prop} {w z : Int} {μ : Mem} (hw : isW w) (hz : isW z) (H : V_X9_copyFrom R 91 [(0, kR w), (1, kR z)] (updm μ w 5 (μ z 5))) : V_X9_copyFrom R 83 [(0, kR w), (1, kR z)] μ := by
  refine vm_step2 mt_X9_copyFrom ok_X9_copyFrom [(16, [0, 1]), (18, [0, 1, 2]), (53, [0, 1, 2]), (67, [0, 1]), (75, [0, 1]), (83, [0, 1]), (91, [0, 1]), (99, [0, 1]), (107, [0, 1]), (115, [0, 1]), (123, [0, 1])] 1000 ?_
  show isC z 9 ∧ isC w 9 ∧ 0 = 0 ∧ True ∧ V_X9_copyFrom R 91 [(0, kR w), (1, kR z)] (updm μ w 5 (μ z 5))
  exact ⟨isW_C hz, ⟨isW_C hw, rfl, trivial, H⟩⟩
set_option maxRecDepth 20000 in
theorem vc_X9_copyFrom_91 {R : Mem → Option AV → Prop} {w z : Int} {μ : Mem} (hw : isW w) (hz : isW z) (H : V_X9_copyFrom R 99 [(0, kR w), (1, kR z)] (updm μ w 6 (μ z 6))) : V_X9_copyFrom R 91 [(0, kR w), (1, kR z)] μ := by
  refine vm_step2 mt_X9_copyFrom ok_X9_copyFrom [(16, [0, 1]), (18, [0, 1, 2]), (53, [0, 1, 2]), (67, [0, 1]), (75, [0, 1]), (83, [0, 1]), (91, [0, 1]), (99, [0, 1]), (107, [0, 1]), (115, [0, 1]), (123, [0, 1])] 1000 ?_
  show isC z 9 ∧ isC w 9 ∧ 0 = 0 ∧ True ∧ V_X9_copyFrom R 99 [(0, kR w), (1, kR z)] (updm μ w 6 (μ z 6))
  exact ⟨isW_C hz, ⟨isW_C hw, rfl, trivial, H⟩⟩
set_option maxRecDepth 20000 in
theorem vc_X9_copyFrom_99 {R : Mem → Option AV → Prop} {w z : Int} {μ : Mem} (hw : isW w) (hz : isW z) (H : V_X9_copyFrom R 107 [(0, kR w), (1, kR z)] (updm μ w 7 (μ z 7))) : V_X9_copyFrom R 99 [(0, kR w), (1, kR z)] μ := by
  refine vm_step2 mt_X9_copyFrom ok_X9_copyFrom [(16, [0, 1]), (18, [0, 1, 2]), (53, [0, 1, 2]), (67, [0, 1]), (75, [0, 1]), (83, [0, 1]), (91, [0, 1]), (99, [0, 1]), (107, [0, 1]), (115, [0, 1]), (123, [0, 1])] 1000 ?_
  show isC z 9 ∧ isC w 9 ∧ 0 = 0 ∧ True ∧ V_X9_copyFrom R 107 [(0, kR w), (1, kR z)] (updm μ w 7 (μ z 7))
  exact ⟨isW_C hz, ⟨isW_C hw, rfl, trivial, H⟩⟩
set_option maxRecDepth 20000 in
theorem vc_X9_copyFrom_107 {R : Mem → Option AV → Prop} {w z : Int} {μ : Mem} (hw : isW w) (hz : isW z) (H : V_X9_copyFrom R 115 [(0, kR w), (1, kR z)] (updm μ w 8 (μ z 8))) : V_X9_copyFrom R 107 [(0, kR w), (1, kR z)] μ := by
  refine vm_step2 mt_X9_copyFrom ok_X9_copyFrom [(16, [0, 1]), (18, [0, 1, 2]), (53, [0, 1, 2]), (67, [0, 1]), (75, [0, 1]), (83, [0, 1]), (91, [0, 1]), (99, [0, 1]), (107, [0, 1]), (115, [0, 1]), (123, [0, 1])] 1000 ?_
  show isC z 9 ∧ isC w 9 ∧ 0 = 0 ∧ True ∧ V_X9_copyFrom R 115 [(0, kR w), (1, kR z)] (updm μ w 8 (μ z 8))
  exact ⟨isW_C hz, ⟨isW_C hw, rfl, trivial, H⟩⟩
set_option maxRecDepth 20000 in
theorem vc_X9_copyFrom_115 {R : Mem → Option AV → Prop} {w z : Int} {μ : Mem} (hw : isW w) (hz : isW z) (H : V_X9_copyFrom R 123 [(0, kR w), (1, kR z)] (updm μ w 9 (μ z 9))) : V_X9_copyFrom R 115 [(0, kR w), (1, kR z)] μ := by
  refine vm_step2 mt_X9_copyFrom ok_X9_copyFrom [(16, [0, 1]), (18, [0, 1, 2]), (53, [0, 1, 2]), (67, [0, 1]), (75, [0, 1]), (83, [0, 1]), (91, [0, 1]), (99, [0, 1]), (107, [0, 1]), (115, [0, 1]), (123, [0, 1])] 1000 ?_
  show isC z 9 ∧ isC w 9 ∧ 0 = 0 ∧ True ∧ V_X9_copyFrom R 123 [(0, kR w), (1, kR z)] (updm μ w 9 (μ z 9))
  exact ⟨isW_C hz, ⟨isW_C hw, rfl, trivial, H⟩⟩
set_option maxRecDepth 20000 in
theorem vc_X9_copyFrom_123 {R : Mem → Option AV → Prop} {w z : Int} {μ : Mem} (hw : isW w) (hz : isW z) (H : R (updm μ w 10 (μ z 10)) none) : V_X9_copyFrom R 123 [(0, kR w), (1, kR z)] μ := by
  refine vm_step2 mt_X9_copyFrom ok_X9_copyFrom [(16, [0, 1]), (18, [0, 1, 2]), (53, [0, 1, 2]), (67, [0, 1]), (75, [0, 1]), (83, [0, 1]), (91, [0, 1]), (99, [0, 1]), (107, [0, 1]), (115, [0, 1]), (123, [0, 1])] 1000 ?_
  show isC z 9 ∧ isC w 9 ∧ 0 = 0 ∧ True ∧ R (updm μ w 10 (μ z 10)) none
  exact ⟨isW_C hz, ⟨isW_C hw, rfl, trivial, H⟩⟩
theorem body_X9_copyFrom {w z : Int} {μ : Mem} {R : Mem → Option AV → Prop} (h : P_X9_copyFrom w z μ) (hR : ∀ μ' : Mem, Q_X9_copyFrom w z μ μ' → R μ' none) : V_X9_copyFrom R 0 [(0, kR w), (1, kR z)] μ := by
  obtain ⟨hw, hz, hne, hby⟩ := h
  have hap := worlds_apart hw hz hne
  have w0 := isW_pos hw
  refine vc_X9_copyFrom_0 hw hz ⟨hby, vc_X9_copyFrom_16 hw hz ?_⟩
  refine up_ind (P := fun i => ∀ m : Mem, Same μ m w (w + 32) → (∀ k : Int, m w k = μ w k) → (∀ j : Int, 0 ≤ j → j < 500 → m (w + 1) j = μ (z + 1) j) → (∀ i' : Int, 0 ≤ i' → i' < i → TCopy μ m (w + 3 + 10 * i') (z + 3 + 10 * i')) → V_X9_copyFrom R 18 [(0, kR w), (1, kR z), (2, kI i)] m) (lo := 0) (hi := 3) ?_ ?_ 0 (by omega) (by omega) _ ?_ ?_ ?_ (fun i' a b => absurd a (by omega))
  · intro i i0 i1 ih m hs hf ht hc
    have e1 : w + 2 + 1 + 10 * i = w + 3 + 10 * i := by omega
    have e2 : z + 2 + 1 + 10 * i = z + 3 + 10 * i := by omega
    refine vc_X9_copyFrom_18 hw hz ?_
    rw [e1, e2]
    refine ⟨rr (by omega), fun c => absurd c (by omega), fun _ => ⟨⟨i0, i1⟩, ⟨i0, i1⟩, ⟨isW_T hw i0 i1, isW_T hz i0 i1, by omega⟩, fun m3 hq => vc_X9_copyFrom_53 hw hz ?_⟩⟩
    obtain ⟨q1, q2⟩ := hq
    refine ih m3 (fun y hy => ?_) (fun k => ?_) (fun j j0 j1 => ?_) (fun i' i0' i1' => ?_)
    · rw [q2 y (by omega), hs y hy]
    · rw [q2 w (by omega)]; exact hf k
    · rw [q2 (w + 1) (by omega)]; exact ht j j0 j1
    · by_cases hi : i' = i
      · subst hi
        exact q1.of (fun y y0 y1 => hs y (by omega)) (fun _ _ _ => rfl)
      · exact (hc i' i0' (by omega)).of (fun _ _ _ => rfl) (fun y y0 y1 => q2 y (by omega))
  · intro m0 hs hf ht hc
    obtain ⟨m1, e1⟩ : ∃ x, x = updm m0 w 2 (m0 z 2) := ⟨_, rfl⟩
    refine vc_X9_copyFrom_18 hw hz ⟨rr (by omega), fun _ => ?_, fun c => absurd (Int.le_refl _) c⟩
    rw [← e1]
    obtain ⟨m2, e2⟩ : ∃ x, x = updm m1 w 3 (m1 z 3) := ⟨_, rfl⟩
    refine vc_X9_copyFrom_67 hw hz ?_
    rw [← e2]
    obtain ⟨m3, e3⟩ : ∃ x, x = updm m2 w 4 (m2 z 4) := ⟨_, rfl⟩
    refine vc_X9_copyFrom_75 hw hz ?_
    rw [← e3]
    obtain ⟨m4, e4⟩ : ∃ x, x = updm m3 w 5 (m3 z 5) := ⟨_, rfl⟩
    refine vc_X9_copyFrom_83 hw hz ?_
    rw [← e4]
    obtain ⟨m5, e5⟩ : ∃ x, x = updm m4 w 6 (m4 z 6) := ⟨_, rfl⟩
    refine vc_X9_copyFrom_91 hw hz ?_
    rw [← e5]
    obtain ⟨m6, e6⟩ : ∃ x, x = updm m5 w 7 (m5 z 7) := ⟨_, rfl⟩
    refine vc_X9_copyFrom_99 hw hz ?_
    rw [← e6]
    obtain ⟨m7, e7⟩ : ∃ x, x = updm m6 w 8 (m6 z 8) := ⟨_, rfl⟩
    refine vc_X9_copyFrom_107 hw hz ?_
    rw [← e7]
    obtain ⟨m8, e8⟩ : ∃ x, x = updm m7 w 9 (m7 z 9) := ⟨_, rfl⟩
    refine vc_X9_copyFrom_115 hw hz ?_
    rw [← e8]
    obtain ⟨m9, e9⟩ : ∃ x, x = updm m8 w 10 (m8 z 10) := ⟨_, rfl⟩
    refine vc_X9_copyFrom_123 hw hz ?_
    rw [← e9]
    have fr : ∀ y : Int, y ≠ w → m9 y = m0 y := fun y hy => by rw [e9, ru_ne hy, e8, ru_ne hy, e7, ru_ne hy, e6, ru_ne hy, e5, ru_ne hy, e4, ru_ne hy, e3, ru_ne hy, e2, ru_ne hy, e1, ru_ne hy]
    have hzw : z ≠ w := fun q => hne q.symm
    have g2 : m9 w 2 = μ z 2 := by rw [e9, ru_eq, r1_ne (by omega), e8, ru_eq, r1_ne (by omega), e7, ru_eq, r1_ne (by omega), e6, ru_eq, r1_ne (by omega), e5, ru_eq, r1_ne (by omega), e4, ru_eq, r1_ne (by omega), e3, ru_eq, r1_ne (by omega), e2, ru_eq, r1_ne (by omega), e1, ru_eq, r1_eq, hs z (by omega)]
    have g3 : m9 w 3 = μ z 3 := by rw [e9, ru_eq, r1_ne (by omega), e8, ru_eq, r1_ne (by omega), e7, ru_eq, r1_ne (by omega), e6, ru_eq, r1_ne (by omega), e5, ru_eq, r1_ne (by omega), e4, ru_eq, r1_ne (by omega), e3, ru_eq, r1_ne (by omega), e2, ru_eq, r1_eq, e1, ru_ne hzw, hs z (by omega)]
    have g4 : m9 w 4 = μ z 4 := by rw [e9, ru_eq, r1_ne (by omega), e8, ru_eq, r1_ne (by omega), e7, ru_eq, r1_ne (by omega), e6, ru_eq, r1_ne (by omega), e5, ru_eq, r1_ne (by omega), e4, ru_eq, r1_ne (by omega), e3, ru_eq, r1_eq, e2, ru_ne hzw, e1, ru_ne hzw, hs z (by omega)]
    have g5 : m9 w 5 = μ z 5 := by rw [e9, ru_eq, r1_ne (by omega), e8, ru_eq, r1_ne (by omega), e7, ru_eq, r1_ne (by omega), e6, ru_eq, r1_ne (by omega), e5, ru_eq, r1_ne (by omega), e4, ru_eq, r1_eq, e3, ru_ne hzw, e2, ru_ne hzw, e1, ru_ne hzw, hs z (by omega)]
    have g6 : m9 w 6 = μ z 6 := by rw [e9, ru_eq, r1_ne (by omega), e8, ru_eq, r1_ne (by omega), e7, ru_eq, r1_ne (by omega), e6, ru_eq, r1_ne (by omega), e5, ru_eq, r1_eq, e4, ru_ne hzw, e3, ru_ne hzw, e2, ru_ne hzw, e1, ru_ne hzw, hs z (by omega)]
    have g7 : m9 w 7 = μ z 7 := by rw [e9, ru_eq, r1_ne (by omega), e8, ru_eq, r1_ne (by omega), e7, ru_eq, r1_ne (by omega), e6, ru_eq, r1_eq, e5, ru_ne hzw, e4, ru_ne hzw, e3, ru_ne hzw, e2, ru_ne hzw, e1, ru_ne hzw, hs z (by omega)]
    have g8 : m9 w 8 = μ z 8 := by rw [e9, ru_eq, r1_ne (by omega), e8, ru_eq, r1_ne (by omega), e7, ru_eq, r1_eq, e6, ru_ne hzw, e5, ru_ne hzw, e4, ru_ne hzw, e3, ru_ne hzw, e2, ru_ne hzw, e1, ru_ne hzw, hs z (by omega)]
    have g9 : m9 w 9 = μ z 9 := by rw [e9, ru_eq, r1_ne (by omega), e8, ru_eq, r1_eq, e7, ru_ne hzw, e6, ru_ne hzw, e5, ru_ne hzw, e4, ru_ne hzw, e3, ru_ne hzw, e2, ru_ne hzw, e1, ru_ne hzw, hs z (by omega)]
    have g10 : m9 w 10 = μ z 10 := by rw [e9, ru_eq, r1_eq, e8, ru_ne hzw, e7, ru_ne hzw, e6, ru_ne hzw, e5, ru_ne hzw, e4, ru_ne hzw, e3, ru_ne hzw, e2, ru_ne hzw, e1, ru_ne hzw, hs z (by omega)]
    refine hR m9 ⟨⟨fun k k0 k1 => ?_, fun j j0 j1 => ?_, fun i i0 i1 => ?_⟩, fun y hy => ?_⟩
    · rcases (show k = 2 ∨ k = 3 ∨ k = 4 ∨ k = 5 ∨ k = 6 ∨ k = 7 ∨ k = 8 ∨ k = 9 ∨ k = 10 by omega) with rfl | rfl | rfl | rfl | rfl | rfl | rfl | rfl | rfl
      · exact g2
      · exact g3
      · exact g4
      · exact g5
      · exact g6
      · exact g7
      · exact g8
      · exact g9
      · exact g10
    · rw [fr (w + 1) (by omega)]; exact ht j j0 j1
    · exact (hc i i0 i1).of (fun _ _ _ => rfl) (fun y y0 y1 => fr y (by omega))
    · rw [fr y (by omega)]; exact hs y hy
  · intro y hy
    exact rs_ne (by omega)
  · intro k
    rw [rs_ne (by omega)]
  · intro j j0 j1
    rw [rs_eq, cpy_in j0 j1]
theorem ct_X9_copyFrom : Ct mX9_copyFrom 2 81 0 0 (nrmS S_X9_copyFrom) := by
  refine ct_vm (own := RX9) (by decide +kernel) rfl ?_ ?_
  · intro as μ Q hS
    unfold S_X9_copyFrom at hS
    split at hS
    · exact Nat.le_of_ble_eq_true rfl
    · exact hS.elim
  · intro as μ R hS
    unfold S_X9_copyFrom at hS
    split at hS
    · exact body_X9_copyFrom hS.1 hS.2
    · exact hS.elim
def gcdI (a b : Int) : Int := (Nat.gcd a.toNat b.toNat : Int)
theorem gcdI_0 {a : Int} (h : 0 ≤ a) : gcdI a 0 = a := by
  unfold gcdI
  have : (0 : Int).toNat = 0 := rfl
  rw [this, Nat.gcd_zero_right, Int.toNat_of_nonneg h]
theorem gcdI_s {a b : Int} (ha : 0 ≤ a) (hb : 0 < b) : gcdI a b = gcdI b (a % b) := by
  unfold gcdI
  have e : (a % b).toNat = a.toNat % b.toNat := Int.toNat_emod ha (by omega)
  rw [e, Nat.gcd_comm, Nat.gcd_rec, Nat.gcd_comm]
def P_X10_commonDivisor (a b : Int) (_ : Mem) : Prop := (0 ≤ a ∧ a ≤ 9223372036854775807) ∧ (0 ≤ b ∧ b ≤ 9223372036854775807)
def F_X10_commonDivisor (a b : Int) (_ : Mem) : Int := gcdI a b
def S_X10_commonDivisor : S0t := fun as μ Q => match as with
  | [(1, x0), (1, x1)] => P_X10_commonDivisor x0 x1 μ ∧ Q μ (some (kL (F_X10_commonDivisor x0 x1 μ)))
  | _ => False
theorem mono_X10_commonDivisor : Mono S_X10_commonDivisor := by
  intro as μ Q Q' h hS
  unfold S_X10_commonDivisor at hS ⊢
  split at hS
  · exact ⟨hS.1, h _ _ hS.2⟩
  · exact hS.elim
def iX10_commonDivisor : Inf := (kX10_commonDivisor, fTX10, pTX10, cTX10, lTX10, sTX10, [])
theorem ok_X10_commonDivisor : infOK iX10_commonDivisor mX10_commonDivisor RX10 0 0 := ⟨kkX10_commonDivisor, fTX10_ok, pTX10_ok _, cTX10_ok, lTX10_ok, sTX10_ok, c_nil⟩
theorem mt_X10_commonDivisor : mtOK [] RX10 0 0 := mt_nil
abbrev V_X10_commonDivisor (R : Mem → Option AV → Prop) (pc : Nat) (lc : List (Nat × AV)) (μ : Mem) : Prop := VM mX10_commonDivisor RX10 0 0 R pc lc [] μ
set_option maxRecDepth 20000 in
theorem vc_X10_commonDivisor_0 {R : Mem → Option AV → Prop} {a b : Int} {μ : Mem} (H : V_X10_commonDivisor R 3 [(0, kL a), (2, kL b), (4, kI 0)] μ) : V_X10_commonDivisor R 0 [(0, kL a), (2, kL b)] μ := by
  refine vm_step2 mt_X10_commonDivisor ok_X10_commonDivisor [(3, [0, 2, 4])] 1000 ?_
  show V_X10_commonDivisor R 3 [(0, kL a), (2, kL b), (4, kI 0)] μ
  exact H
set_option maxRecDepth 20000 in
theorem vc_X10_commonDivisor_3 {R : Mem → Option AV → Prop} {v0 v2 v4 : Int} {μ : Mem} (H : r32 v4 ∧ (((1000000 : Int) ≤ v4) → R μ (some (kL v0))) ∧ (¬ ((1000000 : Int) ≤ v4) → r64 v2 ∧ ((v2 = (0 : Int)) → R μ (some (kL v0))) ∧ (¬ (v2 = (0 : Int)) → (r64 v0 ∧ r64 v2 ∧ v2 ≠ 0) ∧ V_X10_commonDivisor R 3 [(0, kL v2), (2, kL (Int.tmod v0 v2)), (4, kI (v4 + 1))] μ))) : V_X10_commonDivisor R 3 [(0, kL v0), (2, kL v2), (4, kI v4)] μ := by
  refine vm_step2 mt_X10_commonDivisor ok_X10_commonDivisor [(3, [0, 2, 4])] 1000 ?_
  show (r32 v4 ∧ r32 (1000000 : Int)) ∧ (((1000000 : Int) ≤ v4) → R μ (some (kL v0))) ∧ (¬ ((1000000 : Int) ≤ v4) → (r64 v2 ∧ r64 (0 : Int)) ∧ r32 (lcm3 v2 (0 : Int)) ∧ ((lcm3 v2 (0 : Int) = 0) → R μ (some (kL v0))) ∧ (¬ (lcm3 v2 (0 : Int) = 0) → (r64 v0 ∧ r64 v2 ∧ v2 ≠ 0) ∧ V_X10_commonDivisor R 3 [(0, kL v2), (2, kL (Int.tmod v0 v2)), (4, kI (v4 + 1))] μ))
  exact ⟨⟨H.1, by unfold r32; omega⟩, fun hc2 => (H.2.1 hc2), fun hc2 => ⟨⟨(H.2.2 hc2).1, by unfold r64; omega⟩, lcm3_r _ _, fun hc1 => ((H.2.2 hc2).2.1 (lcm_eq.mp hc1)), fun hc1 => ⟨((H.2.2 hc2).2.2 (fun q => hc1 (lcm_eq.mpr q))).1, ((H.2.2 hc2).2.2 (fun q => hc1 (lcm_eq.mpr q))).2⟩⟩⟩
theorem body_X10_commonDivisor {a b : Int} {μ : Mem} {R : Mem → Option AV → Prop} (h : P_X10_commonDivisor a b μ) (hR : R μ (some (kL (F_X10_commonDivisor a b μ)))) : V_X10_commonDivisor R 0 [(0, kL a), (2, kL b)] μ := by
  obtain ⟨ha, hb⟩ := h
  refine vc_X10_commonDivisor_0 ?_
  have key : ∀ (k : Nat) (a b i : Int), k ≤ 70 → (0 ≤ a ∧ a ≤ 9223372036854775807) → (0 ≤ b ∧ b ≤ 9223372036854775807) → b < 2 ^ k → 0 ≤ i → i + 2 * k + 2 ≤ 1000000 → R μ (some (kL (gcdI a b))) → V_X10_commonDivisor R 3 [(0, kL a), (2, kL b), (4, kI i)] μ := by
    intro k
    induction k with
    | zero =>
      intro a b i _ ha hb hk i0 i1 hR
      have hb0 : b = 0 := by have : (2 : Int) ^ 0 = 1 := rfl; omega
      subst hb0
      rw [gcdI_0 ha.1] at hR
      exact vc_X10_commonDivisor_3 ⟨rr (by omega), fun c => absurd c (by omega), fun _ => ⟨rl (by omega), fun _ => hR, fun c => absurd rfl c⟩⟩
    | succ k ih =>
      intro a b i hk7 ha hb hk i0 i1 hR
      by_cases hb0 : b = 0
      · subst hb0
        rw [gcdI_0 ha.1] at hR
        exact vc_X10_commonDivisor_3 ⟨rr (by omega), fun c => absurd c (by omega), fun _ => ⟨rl (by omega), fun _ => hR, fun c => absurd rfl c⟩⟩
      · have em : Int.tmod a b = a % b := Int.tmod_eq_emod_of_nonneg ha.1
        have m1 : 0 ≤ a % b ∧ a % b < b := ⟨Int.emod_nonneg _ hb0, Int.emod_lt_of_pos _ (by omega)⟩
        rw [gcdI_s ha.1 (by omega)] at hR
        refine vc_X10_commonDivisor_3 ⟨rr (by omega), fun c => absurd c (by omega), fun _ => ⟨rl (by omega), fun c => absurd c hb0, fun _ => ⟨⟨rl (by omega), rl (by omega), hb0⟩, ?_⟩⟩⟩
        rw [em]
        by_cases hr0 : a % b = 0
        · rw [hr0] at hR ⊢
          rw [gcdI_0 hb.1] at hR
          exact vc_X10_commonDivisor_3 ⟨rr (by omega), fun c => absurd c (by omega), fun _ => ⟨rl (by omega), fun _ => hR, fun c => absurd rfl c⟩⟩
        · have em2 : Int.tmod b (a % b) = b % (a % b) := Int.tmod_eq_emod_of_nonneg hb.1
          have m2 : 0 ≤ b % (a % b) ∧ b % (a % b) < a % b := ⟨Int.emod_nonneg _ hr0, Int.emod_lt_of_pos _ (by omega)⟩
          have m3 : b % (a % b) ≤ b - a % b := by
            have h1 := Int.emod_add_mul_ediv b (a % b)
            have h2 : 1 ≤ b / (a % b) := by
              have : a % b * 1 ≤ b := by omega
              exact (Int.le_ediv_iff_mul_le (by omega)).mpr (by omega)
            have h3 : a % b * 1 ≤ a % b * (b / (a % b)) := Int.mul_le_mul_of_nonneg_left h2 (by omega)
            omega
          rw [gcdI_s hb.1 (by omega)] at hR
          refine vc_X10_commonDivisor_3 ⟨rr (by omega), fun c => absurd c (by omega), fun _ => ⟨rl (by omega), fun c => absurd c hr0, fun _ => ⟨⟨rl (by omega), rl (by omega), hr0⟩, ?_⟩⟩⟩
          rw [em2]
          have hk2 : (2 : Int) ^ (k + 1) = 2 * 2 ^ k := by rw [Int.pow_succ]; omega
          exact ih (a % b) (b % (a % b)) (i + 1 + 1) (by omega) ⟨by omega, by omega⟩ ⟨by omega, by omega⟩ (by omega) (by omega) (by omega) hR
  exact key 63 a b 0 (by omega) ha hb (by have : (2 : Int) ^ 63 = 9223372036854775808 := rfl; omega) (by omega) (by omega) hR
theorem ct_X10_commonDivisor : Ct mX10_commonDivisor 0 0 0 0 (nrmS S_X10_commonDivisor) := by
  refine ct_vm (own := RX10) (by decide +kernel) rfl ?_ ?_
  · intro as μ Q hS
    unfold S_X10_commonDivisor at hS
    split at hS
    · exact Nat.le_of_ble_eq_true rfl
    · exact hS.elim
  · intro as μ R hS
    unfold S_X10_commonDivisor at hS
    split at hS
    · exact body_X10_commonDivisor hS.1 hS.2
    · exact hS.elim
def detV (m : Int → Int) (k : Int) : Int := if k = 0 then 1 else if k = 1 then m 0 else if k = 2 then m 0 * m 4 - m 1 * m 3 else m 0 * (m 4 * m 8 - m 5 * m 7) - m 1 * (m 3 * m 8 - m 5 * m 6) + m 2 * (m 3 * m 7 - m 4 * m 6)
def P_X10_determinant (z k : Int) (_ : Mem) : Prop := isArr z 1 9 ∧ r32 k
def F_X10_determinant (z k : Int) (μ : Mem) : Int := detV (μ z) k
def S_X10_determinant : S0t := fun as μ Q => match as with
  | [(2, x0), (0, x1)] => P_X10_determinant x0 x1 μ ∧ Q μ (some (kL (F_X10_determinant x0 x1 μ)))
  | _ => False
theorem mono_X10_determinant : Mono S_X10_determinant := by
  intro as μ Q Q' h hS
  unfold S_X10_determinant at hS ⊢
  split at hS
  · exact ⟨hS.1, h _ _ hS.2⟩
  · exact hS.elim
def iX10_determinant : Inf := (kX10_determinant, fTX10, pTX10, cTX10, lTX10, sTX10, [])
theorem ok_X10_determinant : infOK iX10_determinant mX10_determinant RX10 0 0 := ⟨kkX10_determinant, fTX10_ok, pTX10_ok _, cTX10_ok, lTX10_ok, sTX10_ok, c_nil⟩
theorem mt_X10_determinant : mtOK [] RX10 0 0 := mt_nil
abbrev V_X10_determinant (R : Mem → Option AV → Prop) (pc : Nat) (lc : List (Nat × AV)) (μ : Mem) : Prop := VM mX10_determinant RX10 0 0 R pc lc [] μ
set_option maxRecDepth 20000 in
theorem vc_X10_determinant_0 {R : Mem → Option AV → Prop} {k z : Int} {μ : Mem} (hz : isArr z 1 9) (H : r32 k ∧ (k < 0 ∨ 2 < k → R μ (some (kL ((((μ z 0) * (((μ z 4) * (μ z 8)) - ((μ z 5) * (μ z 7)))) - ((μ z 1) * (((μ z 3) * (μ z 8)) - ((μ z 5) * (μ z 6))))) + ((μ z 2) * (((μ z 3) * (μ z 7)) - ((μ z 4) * (μ z 6)))))))) ∧ (k = 0 → R μ (some (kL 1))) ∧ (k = 1 → R μ (some (kL (μ z 0)))) ∧ (k = 2 → R μ (some (kL (((μ z 0) * (μ z 4)) - ((μ z 1) * (μ z 3))))))) : V_X10_determinant R 0 [(0, kR z), (1, kI k)] μ := by
  refine vm_step2 mt_X10_determinant ok_X10_determinant [] 1000 ?_
  show r32 k ∧ (k < 0 ∨ 2 < k → inA z 1 (0 : Int) ∧ inA z 1 (4 : Int) ∧ inA z 1 (8 : Int) ∧ inA z 1 (5 : Int) ∧ inA z 1 (7 : Int) ∧ inA z 1 (1 : Int) ∧ inA z 1 (3 : Int) ∧ inA z 1 (8 : Int) ∧ inA z 1 (5 : Int) ∧ inA z 1 (6 : Int) ∧ inA z 1 (2 : Int) ∧ inA z 1 (3 : Int) ∧ inA z 1 (7 : Int) ∧ inA z 1 (4 : Int) ∧ inA z 1 (6 : Int) ∧ R μ (some (kL ((((μ z 0) * (((μ z 4) * (μ z 8)) - ((μ z 5) * (μ z 7)))) - ((μ z 1) * (((μ z 3) * (μ z 8)) - ((μ z 5) * (μ z 6))))) + ((μ z 2) * (((μ z 3) * (μ z 7)) - ((μ z 4) * (μ z 6)))))))) ∧ (k = 0 → R μ (some (kL 1))) ∧ (k = 1 → inA z 1 (0 : Int) ∧ R μ (some (kL (μ z 0)))) ∧ (k = 2 → inA z 1 (0 : Int) ∧ inA z 1 (4 : Int) ∧ inA z 1 (1 : Int) ∧ inA z 1 (3 : Int) ∧ R μ (some (kL (((μ z 0) * (μ z 4)) - ((μ z 1) * (μ z 3)))))) ∧ True
  exact ⟨H.1, fun hc1 => ⟨isArr.in hz (by omega) (by omega), ⟨isArr.in hz (by omega) (by omega), ⟨isArr.in hz (by omega) (by omega), ⟨isArr.in hz (by omega) (by omega), ⟨isArr.in hz (by omega) (by omega), ⟨isArr.in hz (by omega) (by omega), ⟨isArr.in hz (by omega) (by omega), ⟨isArr.in hz (by omega) (by omega), ⟨isArr.in hz (by omega) (by omega), ⟨isArr.in hz (by omega) (by omega), ⟨isArr.in hz (by omega) (by omega), ⟨isArr.in hz (by omega) (by omega), ⟨isArr.in hz (by omega) (by omega), ⟨isArr.in hz (by omega) (by omega), ⟨isArr.in hz (by omega) (by omega), (H.2.1 hc1)⟩⟩⟩⟩⟩⟩⟩⟩⟩⟩⟩⟩⟩⟩⟩, fun hc1 => (H.2.2.1 hc1), fun hc1 => ⟨isArr.in hz (by omega) (by omega), (H.2.2.2.1 hc1)⟩, fun hc1 => ⟨isArr.in hz (by omega) (by omega), ⟨isArr.in hz (by omega) (by omega), ⟨isArr.in hz (by omega) (by omega), ⟨isArr.in hz (by omega) (by omega), (H.2.2.2.2 hc1)⟩⟩⟩⟩, trivial⟩
theorem body_X10_determinant {z k : Int} {μ : Mem} {R : Mem → Option AV → Prop} (h : P_X10_determinant z k μ) (hR : R μ (some (kL (F_X10_determinant z k μ)))) : V_X10_determinant R 0 [(0, kR z), (1, kI k)] μ := by
  obtain ⟨hz, hk⟩ := h
  unfold F_X10_determinant detV at hR
  refine vc_X10_determinant_0 hz ⟨hk, fun c => ?_, fun c => ?_, fun c => ?_, fun c => ?_⟩
  · rw [if_neg (by omega), if_neg (by omega), if_neg (by omega)] at hR; exact hR
  · subst c; exact hR
  · subst c; exact hR
  · subst c; exact hR
theorem ct_X10_determinant : Ct mX10_determinant 0 0 0 0 (nrmS S_X10_determinant) := by
  refine ct_vm (own := RX10) (by decide +kernel) rfl ?_ ?_
  · intro as μ Q hS
    unfold S_X10_determinant at hS
    split at hS
    · exact Nat.le_of_ble_eq_true rfl
    · exact hS.elim
  · intro as μ R hS
    unfold S_X10_determinant at hS
    split at hS
    · exact body_X10_determinant hS.1 hS.2
    · exact hS.elim
def drawV (x : Int) : Int := x * 1103515245 + 12345
def F_X10_drawAfter (x : Int) (_ : Mem) : Int := drawV x
def P_X10_drawAfter (_ : Int) (_ : Mem) : Prop := True
def S_X10_drawAfter : S0t := fun as μ Q => match as with
  | [(0, x0)] => True ∧ Q μ (some (kI (F_X10_drawAfter x0 μ)))
  | _ => False
theorem mono_X10_drawAfter : Mono S_X10_drawAfter := by
  intro as μ Q Q' h hS
  unfold S_X10_drawAfter at hS ⊢
  split at hS
  · exact ⟨hS.1, h _ _ hS.2⟩
  · exact hS.elim
def iX10_drawAfter : Inf := (kX10_drawAfter, fTX10, pTX10, cTX10, lTX10, sTX10, [])
theorem ok_X10_drawAfter : infOK iX10_drawAfter mX10_drawAfter RX10 0 0 := ⟨kkX10_drawAfter, fTX10_ok, pTX10_ok _, cTX10_ok, lTX10_ok, sTX10_ok, c_nil⟩
theorem mt_X10_drawAfter : mtOK [] RX10 0 0 := mt_nil
abbrev V_X10_drawAfter (R : Mem → Option AV → Prop) (pc : Nat) (lc : List (Nat × AV)) (μ : Mem) : Prop := VM mX10_drawAfter RX10 0 0 R pc lc [] μ
set_option maxRecDepth 20000 in
theorem vc_X10_drawAfter_0 {R : Mem → Option AV → Prop} {x : Int} {μ : Mem} (H : R μ (some (kI ((x * 1103515245) + 12345)))) : V_X10_drawAfter R 0 [(0, kI x)] μ := by
  refine vm_step2 mt_X10_drawAfter ok_X10_drawAfter [] 1000 ?_
  show R μ (some (kI ((x * 1103515245) + 12345)))
  exact H
theorem body_X10_drawAfter {x : Int} {μ : Mem} {R : Mem → Option AV → Prop} (_ : P_X10_drawAfter x μ) (hR : R μ (some (kI (F_X10_drawAfter x μ)))) : V_X10_drawAfter R 0 [(0, kI x)] μ := vc_X10_drawAfter_0 hR
theorem ct_X10_drawAfter : Ct mX10_drawAfter 0 0 0 0 (nrmS S_X10_drawAfter) := by
  refine ct_vm (own := RX10) (by decide +kernel) rfl ?_ ?_
  · intro as μ Q hS
    unfold S_X10_drawAfter at hS
    split at hS
    · exact Nat.le_of_ble_eq_true rfl
    · exact hS.elim
  · intro as μ R hS
    unfold S_X10_drawAfter at hS
    split at hS
    · exact body_X10_drawAfter hS.1 hS.2
    · exact hS.elim
def numV (x : Int) : Int := band (bshr x 16) 32767
theorem numV_bd (x : Int) : 0 ≤ numV x ∧ numV x ≤ 32767 := by
  unfold numV band
  have e : (Int32.ofInt (bshr x 16) &&& Int32.ofInt 32767).toBitVec.toNat ≤ 32767 := by
    rw [Int32.toBitVec_and, BitVec.toNat_and, bv_ofInt (a := 32767) (by omega) (by omega)]
    exact Nat.and_le_right
  rw [bv_int (by omega)]
  omega
def F_X10_numberOf (x : Int) (_ : Mem) : Int := numV x
def P_X10_numberOf (_ : Int) (_ : Mem) : Prop := True
def S_X10_numberOf : S0t := fun as μ Q => match as with
  | [(0, x0)] => True ∧ Q μ (some (kI (F_X10_numberOf x0 μ)))
  | _ => False
theorem mono_X10_numberOf : Mono S_X10_numberOf := by
  intro as μ Q Q' h hS
  unfold S_X10_numberOf at hS ⊢
  split at hS
  · exact ⟨hS.1, h _ _ hS.2⟩
  · exact hS.elim
def iX10_numberOf : Inf := (kX10_numberOf, fTX10, pTX10, cTX10, lTX10, sTX10, [])
theorem ok_X10_numberOf : infOK iX10_numberOf mX10_numberOf RX10 0 0 := ⟨kkX10_numberOf, fTX10_ok, pTX10_ok _, cTX10_ok, lTX10_ok, sTX10_ok, c_nil⟩
theorem mt_X10_numberOf : mtOK [] RX10 0 0 := mt_nil
abbrev V_X10_numberOf (R : Mem → Option AV → Prop) (pc : Nat) (lc : List (Nat × AV)) (μ : Mem) : Prop := VM mX10_numberOf RX10 0 0 R pc lc [] μ
set_option maxRecDepth 20000 in
theorem vc_X10_numberOf_0 {R : Mem → Option AV → Prop} {x : Int} {μ : Mem} (H : R μ (some (kI (band (bshr x 16) 32767)))) : V_X10_numberOf R 0 [(0, kI x)] μ := by
  refine vm_step2 mt_X10_numberOf ok_X10_numberOf [] 1000 ?_
  show R μ (some (kI (band (bshr x 16) 32767)))
  exact H
theorem body_X10_numberOf {x : Int} {μ : Mem} {R : Mem → Option AV → Prop} (_ : P_X10_numberOf x μ) (hR : R μ (some (kI (F_X10_numberOf x μ)))) : V_X10_numberOf R 0 [(0, kI x)] μ := vc_X10_numberOf_0 hR
theorem ct_X10_numberOf : Ct mX10_numberOf 0 0 0 0 (nrmS S_X10_numberOf) := by
  refine ct_vm (own := RX10) (by decide +kernel) rfl ?_ ?_
  · intro as μ Q hS
    unfold S_X10_numberOf at hS
    split at hS
    · exact Nat.le_of_ble_eq_true rfl
    · exact hS.elim
  · intro as μ R hS
    unfold S_X10_numberOf at hS
    split at hS
    · exact body_X10_numberOf hS.1 hS.2
    · exact hS.elim
