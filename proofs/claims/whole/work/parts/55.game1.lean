/-! how many of a set lie below, the n-th of it -/
def cntB (s c : Int) : Int := sm (fun a => if hasB s a = true then 1 else 0) c
theorem cntB_s {s c : Int} (h : 0 ≤ c) : cntB s (c + 1) = cntB s c + (if hasB s c = true then 1 else 0) := sm_s h
theorem cntB_bd {s c : Int} (h : 0 ≤ c) : 0 ≤ cntB s c ∧ cntB s c ≤ c := by
  have := sm_bd (f := fun a => if hasB s a = true then 1 else 0) (n := c) (c := 0) (d := 1) (fun i _ _ => by
    show 0 ≤ (if hasB s i = true then (1 : Int) else 0) ∧ (if hasB s i = true then (1 : Int) else 0) ≤ 1
    split <;> omega) h
  unfold cntB
  omega
def memV (s n : Int) : Int := max 0 (frst (fun c => hasB s c && decide (cntB s c = n)) 4)
def P_X0_memberOf (s n : Int) (_ : Mem) : Prop := (0 ≤ s ∧ s < 256) ∧ r32 n
def F_X0_memberOf (s n : Int) (_ : Mem) : Int := memV s n
def S_X0_memberOf : S0t := fun as μ Q => match as with
  | [(0, x0), (0, x1)] => P_X0_memberOf x0 x1 μ ∧ Q μ (some (kI (F_X0_memberOf x0 x1 μ)))
  | _ => False
theorem mono_X0_memberOf : Mono S_X0_memberOf := by
  intro as μ Q Q' h hS
  unfold S_X0_memberOf at hS ⊢
  split at hS
  · exact ⟨hS.1, h _ _ hS.2⟩
  · exact hS.elim
def iX0_memberOf : Inf := (kX0_memberOf, fTX0, pTX0, cTX0, lTX0, sTX0, [(59, 1, 2, 0, S_X10_isIn)])
theorem ok_X0_memberOf : infOK iX0_memberOf mX0_memberOf RX0 1 21 := ⟨kkX0_memberOf, fTX0_ok, pTX0_ok _, cTX0_ok, lTX0_ok, sTX0_ok, c_cons ⟨mX10_isIn, 0, 0, ct_X10_isIn, mmX10_isIn, stX10_isIn, lkX0_59, ⟨by decide, by decide⟩, mono_X10_isIn⟩ (c_nil)⟩
theorem mt_X0_memberOf : mtOK [] RX0 1 21 := mt_nil
abbrev V_X0_memberOf (R : Mem → Option AV → Prop) (pc : Nat) (lc : List (Nat × AV)) (μ : Mem) : Prop := VM mX0_memberOf RX0 1 21 R pc lc [] μ
set_option maxRecDepth 20000 in
theorem vc_X0_memberOf_0 {R : Mem → Option AV → Prop} {s n : Int} {μ : Mem} (H : V_X0_memberOf R 4 [(0, kI s), (1, kI n), (2, kI 0), (3, kI 0)] μ) : V_X0_memberOf R 0 [(0, kI s), (1, kI n)] μ := by
  refine vm_step2 mt_X0_memberOf ok_X0_memberOf [(4, [0, 1, 2, 3])] 1000 ?_
  show V_X0_memberOf R 4 [(0, kI s), (1, kI n), (2, kI 0), (3, kI 0)] μ
  exact H
set_option maxRecDepth 20000 in
theorem vc_X0_memberOf_4 {R : Mem → Option AV → Prop} {s n sk c : Int} {μ : Mem} (H : r32 c ∧ (((4 : Int) ≤ c) → R μ (some (kI 0))) ∧ (¬ ((4 : Int) ≤ c) → P_X10_isIn s c μ ∧ r32 (F_X10_isIn s c μ) ∧ (((F_X10_isIn s c μ) = 0) → V_X0_memberOf R 4 [(0, kI s), (1, kI n), (2, kI sk), (3, kI (c + 1))] μ) ∧ (¬ ((F_X10_isIn s c μ) = 0) → r32 sk ∧ r32 n ∧ ((¬ sk = n) → V_X0_memberOf R 4 [(0, kI s), (1, kI n), (2, kI (sk + 1)), (3, kI (c + 1))] μ) ∧ (¬ (¬ sk = n) → R μ (some (kI c)))))) : V_X0_memberOf R 4 [(0, kI s), (1, kI n), (2, kI sk), (3, kI c)] μ := by
  refine vm_step2 mt_X0_memberOf ok_X0_memberOf [(4, [0, 1, 2, 3])] 1000 ?_
  show (r32 c ∧ r32 (4 : Int)) ∧ (((4 : Int) ≤ c) → R μ (some (kI 0))) ∧ (¬ ((4 : Int) ≤ c) → P_X10_isIn s c μ ∧ r32 (F_X10_isIn s c μ) ∧ (((F_X10_isIn s c μ) = 0) → V_X0_memberOf R 4 [(0, kI s), (1, kI n), (2, kI sk), (3, kI (c + 1))] μ) ∧ (¬ ((F_X10_isIn s c μ) = 0) → (r32 sk ∧ r32 n) ∧ ((¬ sk = n) → V_X0_memberOf R 4 [(0, kI s), (1, kI n), (2, kI (sk + 1)), (3, kI (c + 1))] μ) ∧ (¬ (¬ sk = n) → R μ (some (kI c)))))
  exact ⟨⟨H.1, by unfold r32; omega⟩, fun hc3 => (H.2.1 hc3), fun hc3 => ⟨(H.2.2 hc3).1, ⟨(H.2.2 hc3).2.1, fun hc2 => ((H.2.2 hc3).2.2.1 hc2), fun hc2 => ⟨⟨((H.2.2 hc3).2.2.2 hc2).1, ((H.2.2 hc3).2.2.2 hc2).2.1⟩, fun hc1 => (((H.2.2 hc3).2.2.2 hc2).2.2.1 hc1), fun hc1 => (((H.2.2 hc3).2.2.2 hc2).2.2.2 hc1)⟩⟩⟩⟩
theorem body_X0_memberOf {s n : Int} {μ : Mem} {R : Mem → Option AV → Prop} (h : P_X0_memberOf s n μ) (hR : R μ (some (kI (F_X0_memberOf s n μ)))) : V_X0_memberOf R 0 [(0, kI s), (1, kI n)] μ := by
  obtain ⟨hs, hn⟩ := h
  unfold F_X0_memberOf memV at hR
  have key : ∀ c : Int, 0 ≤ c → c ≤ 4 → (∀ i : Int, 0 ≤ i → i < c → (hasB s i && decide (cntB s i = n)) = false) → V_X0_memberOf R 4 [(0, kI s), (1, kI n), (2, kI (cntB s c)), (3, kI c)] μ := by
    refine up_ind (P := fun c => (∀ i : Int, 0 ≤ i → i < c → (hasB s i && decide (cntB s i = n)) = false) → V_X0_memberOf R 4 [(0, kI s), (1, kI n), (2, kI (cntB s c)), (3, kI c)] μ) ?_ ?_
    · intro c c0 c1 ih hq
      have hb := cntB_bd (s := s) c0
      have es := cntB_s (s := s) c0
      have nx : (hasB s c && decide (cntB s c = n)) = false → ∀ i : Int, 0 ≤ i → i < c + 1 → (hasB s i && decide (cntB s i = n)) = false := fun h i i0 i1 => by
        by_cases e : i = c
        · subst e; exact h
        · exact hq i i0 (by omega)
      refine vc_X0_memberOf_4 ⟨rr (by omega), fun q => absurd q (by omega), fun _ => ⟨⟨⟨by omega, by omega⟩, by omega, by omega⟩, ?_⟩⟩
      unfold F_X10_isIn
      by_cases hy : hasB s c = true
      · rw [if_pos hy] at es ⊢
        refine ⟨rr (by omega), fun q => absurd q (by omega), fun _ => ⟨rr (by omega), hn, fun q => ?_, fun q => ?_⟩⟩
        · rw [← es]
          exact ih (nx (by rw [hy, decide_eq_false q]; rfl))
        · have e := frst_at (q := fun c => hasB s c && decide (cntB s c = n)) (n := 4) (k := c) c0 (by omega) (by
            show (hasB s c && decide (cntB s c = n)) = true
            rw [hy, decide_eq_true (by omega)]; rfl) hq
          rw [e] at hR
          exact r_eq hR (by omega)
      · rw [if_neg hy] at es ⊢
        refine ⟨rr (by omega), fun _ => ?_, fun q => absurd rfl q⟩
        have := ih (nx (by rw [Bool.eq_false_iff.mpr hy]; rfl))
        rw [es, Int.add_zero] at this
        exact this
    · intro hq
      refine vc_X0_memberOf_4 ⟨rr (by omega), fun _ => ?_, fun q => absurd (Int.le_refl _) q⟩
      rw [frst_none (by omega) hq] at hR
      exact hR
  exact vc_X0_memberOf_0 (key 0 (by omega) (by omega) (fun i i0 i1 => absurd i0 (by omega)))
theorem ct_X0_memberOf : Ct mX0_memberOf 1 21 0 0 (nrmS S_X0_memberOf) := by
  refine ct_vm (own := RX0) (by decide +kernel) rfl ?_ ?_
  · intro as μ Q hS
    unfold S_X0_memberOf at hS
    split at hS
    · exact Nat.le_of_ble_eq_true rfl
    · exact hS.elim
  · intro as μ R hS
    unfold S_X0_memberOf at hS
    split at hS
    · exact body_X0_memberOf hS.1 hS.2
    · exact hS.elim
def P_X0_pickFirst (z k : Int) (_ : Mem) : Prop := isArr z 0 4 ∧ (0 ≤ k ∧ k ≤ 4)
def Q_X0_pickFirst (z k : Int) (μ μ' : Mem) : Prop := (∀ i : Int, 0 ≤ i → i < k → μ' z i = i) ∧ ∀ y : Int, y ≠ z → μ' y = μ y
def S_X0_pickFirst : S0t := fun as μ Q => match as with
  | [(2, x0), (0, x1)] => P_X0_pickFirst x0 x1 μ ∧ ∀ (μ' : Mem) , Q_X0_pickFirst x0 x1 μ μ'  → Q μ' none
  | _ => False
theorem mono_X0_pickFirst : Mono S_X0_pickFirst := by
  intro as μ Q Q' h hS
  unfold S_X0_pickFirst at hS ⊢
  split at hS
  · exact ⟨hS.1, fun μ' q => h _ _ (hS.2 _ q)⟩
  · exact hS.elim
def iX0_pickFirst : Inf := (kX0_pickFirst, fTX0, pTX0, cTX0, lTX0, sTX0, [])
theorem ok_X0_pickFirst : infOK iX0_pickFirst mX0_pickFirst RX0 0 0 := ⟨kkX0_pickFirst, fTX0_ok, pTX0_ok _, cTX0_ok, lTX0_ok, sTX0_ok, c_nil⟩
theorem mt_X0_pickFirst : mtOK [] RX0 0 0 := mt_nil
abbrev V_X0_pickFirst (R : Mem → Option AV → Prop) (pc : Nat) (lc : List (Nat × AV)) (μ : Mem) : Prop := VM mX0_pickFirst RX0 0 0 R pc lc [] μ
set_option maxRecDepth 20000 in
theorem vc_X0_pickFirst_0 {R : Mem → Option AV → Prop} {k z : Int} {μ : Mem} (hz : isArr z 0 4) (H : V_X0_pickFirst R 2 [(0, kR z), (1, kI k), (2, kI 0)] μ) : V_X0_pickFirst R 0 [(0, kR z), (1, kI k)] μ := by
  refine vm_step2 mt_X0_pickFirst ok_X0_pickFirst [(2, [0, 1, 2])] 1000 ?_
  show V_X0_pickFirst R 2 [(0, kR z), (1, kI k), (2, kI 0)] μ
  exact H
set_option maxRecDepth 20000 in
theorem vc_X0_pickFirst_2 {R : Mem → Option AV → Prop} {k i z : Int} {μ : Mem} (hz : isArr z 0 4) (H : r32 i ∧ r32 k ∧ ((k ≤ i) → R μ none) ∧ (¬ (k ≤ i) → (0 ≤ i ∧ i < 4) ∧ V_X0_pickFirst R 2 [(0, kR z), (1, kI k), (2, kI (i + 1))] (updm μ z i i))) : V_X0_pickFirst R 2 [(0, kR z), (1, kI k), (2, kI i)] μ := by
  refine vm_step2 mt_X0_pickFirst ok_X0_pickFirst [(2, [0, 1, 2])] 1000 ?_
  show (r32 i ∧ r32 k) ∧ ((k ≤ i) → R μ none) ∧ (¬ (k ≤ i) → inA z 0 i ∧ V_X0_pickFirst R 2 [(0, kR z), (1, kI k), (2, kI (i + 1))] (updm μ z i i))
  exact ⟨⟨H.1, H.2.1⟩, fun hc1 => (H.2.2.1 hc1), fun hc1 => ⟨isArr.in hz (H.2.2.2 hc1).1.1 (H.2.2.2 hc1).1.2, (H.2.2.2 hc1).2⟩⟩
theorem body_X0_pickFirst {z k : Int} {μ : Mem} {R : Mem → Option AV → Prop} (h : P_X0_pickFirst z k μ) (hR : ∀ μ' : Mem, Q_X0_pickFirst z k μ μ' → R μ' none) : V_X0_pickFirst R 0 [(0, kR z), (1, kI k)] μ := by
  obtain ⟨hz, hk⟩ := h
  have key : ∀ i : Int, 0 ≤ i → i ≤ k → ∀ m : Mem, (∀ y : Int, y ≠ z → m y = μ y) → (∀ j : Int, 0 ≤ j → j < i → m z j = j) → V_X0_pickFirst R 2 [(0, kR z), (1, kI k), (2, kI i)] m := by
    refine up_ind (P := fun i => ∀ m : Mem, (∀ y : Int, y ≠ z → m y = μ y) → (∀ j : Int, 0 ≤ j → j < i → m z j = j) → V_X0_pickFirst R 2 [(0, kR z), (1, kI k), (2, kI i)] m) ?_ ?_
    · intro i i0 i1 ih m hf hq
      refine vc_X0_pickFirst_2 hz ⟨rr (by omega), rr (by omega), fun c => absurd c (by omega), fun _ => ⟨by omega, ih _ (fun y hy => by rw [ru_ne hy]; exact hf y hy) (fun j j0 j1 => ?_)⟩⟩
      rw [ru_eq]
      by_cases e : j = i
      · rw [e, r1_eq]
      · rw [r1_ne e]; exact hq j j0 (by omega)
    · intro m hf hq
      exact vc_X0_pickFirst_2 hz ⟨rr (by omega), rr (by omega), fun _ => hR m ⟨hq, hf⟩, fun c => absurd (Int.le_refl _) c⟩
  exact vc_X0_pickFirst_0 hz (key 0 (Int.le_refl _) hk.1 μ (fun _ _ => rfl) (fun j j0 j1 => absurd j0 (by omega)))
theorem ct_X0_pickFirst : Ct mX0_pickFirst 0 0 0 0 (nrmS S_X0_pickFirst) := by
  refine ct_vm (own := RX0) (by decide +kernel) rfl ?_ ?_
  · intro as μ Q hS
    unfold S_X0_pickFirst at hS
    split at hS
    · exact Nat.le_of_ble_eq_true rfl
    · exact hS.elim
  · intro as μ R hS
    unfold S_X0_pickFirst at hS
    split at hS
    · exact body_X0_pickFirst hS.1 hS.2
    · exact hS.elim
def P_X0_pickNext (z k n : Int) (μ : Mem) : Prop := isArr z 0 4 ∧ (0 ≤ k ∧ k ≤ 4) ∧ (0 ≤ n ∧ n ≤ 24) ∧ Pk k n (μ z)
def Q_X0_pickNext (z k n : Int) (μ μ' : Mem) (r : Int) : Prop := ((r = 1 ∧ Nx k n (μ z) (μ' z)) ∨ (r = 0 ∧ μ' z = μ z ∧ ∀ j : Int, 0 ≤ j → j < k → n - k + j ≤ μ z j)) ∧ ∀ y : Int, y ≠ z → μ' y = μ y
def S_X0_pickNext : S0t := fun as μ Q => match as with
  | [(2, x0), (0, x1), (0, x2)] => P_X0_pickNext x0 x1 x2 μ ∧ ∀ (μ' : Mem) (r : Int), Q_X0_pickNext x0 x1 x2 μ μ' r → Q μ' (some (kI r))
  | _ => False
theorem mono_X0_pickNext : Mono S_X0_pickNext := by
  intro as μ Q Q' h hS
  unfold S_X0_pickNext at hS ⊢
  split at hS
  · exact ⟨hS.1, fun μ' r q => h _ _ (hS.2 _ _ q)⟩
  · exact hS.elim
def iX0_pickNext : Inf := (kX0_pickNext, fTX0, pTX0, cTX0, lTX0, sTX0, [])
theorem ok_X0_pickNext : infOK iX0_pickNext mX0_pickNext RX0 0 0 := ⟨kkX0_pickNext, fTX0_ok, pTX0_ok _, cTX0_ok, lTX0_ok, sTX0_ok, c_nil⟩
theorem mt_X0_pickNext : mtOK [] RX0 0 0 := mt_nil
abbrev V_X0_pickNext (R : Mem → Option AV → Prop) (pc : Nat) (lc : List (Nat × AV)) (μ : Mem) : Prop := VM mX0_pickNext RX0 0 0 R pc lc [] μ
set_option maxRecDepth 20000 in
theorem vc_X0_pickNext_0 {R : Mem → Option AV → Prop} {k n z : Int} {μ : Mem} (hz : isArr z 0 4) (H : V_X0_pickNext R 4 [(0, kR z), (1, kI k), (2, kI n), (3, kI (k - 1))] μ) : V_X0_pickNext R 0 [(0, kR z), (1, kI k), (2, kI n)] μ := by
  refine vm_step2 mt_X0_pickNext ok_X0_pickNext [(4, [0, 1, 2, 3]), (26, [0, 1, 3]), (31, [0, 1, 4]), (49, [0, 1, 4])] 1000 ?_
  show V_X0_pickNext R 4 [(0, kR z), (1, kI k), (2, kI n), (3, kI (k - 1))] μ
  exact H
set_option maxRecDepth 20000 in
theorem vc_X0_pickNext_4 {R : Mem → Option AV → Prop} {k n i z : Int} {μ : Mem} (hz : isArr z 0 4) (H : r32 i ∧ ((i < 0) → R μ (some (kI 0))) ∧ (¬ (i < 0) → (0 ≤ i ∧ i < 4) ∧ r32 (μ z i) ∧ r32 ((n - k) + i) ∧ ((((n - k) + i) ≤ (μ z i)) → V_X0_pickNext R 4 [(0, kR z), (1, kI k), (2, kI n), (3, kI (i + (-1)))] μ) ∧ (¬ (((n - k) + i) ≤ (μ z i)) → (0 ≤ i ∧ i < 4) ∧ (0 ≤ i ∧ i < 4) ∧ V_X0_pickNext R 26 [(0, kR z), (1, kI k), (3, kI i)] (updm μ z i ((μ z i) + 1))))) : V_X0_pickNext R 4 [(0, kR z), (1, kI k), (2, kI n), (3, kI i)] μ := by
  refine vm_step2 mt_X0_pickNext ok_X0_pickNext [(4, [0, 1, 2, 3]), (26, [0, 1, 3]), (31, [0, 1, 4]), (49, [0, 1, 4])] 1000 ?_
  show r32 i ∧ ((i < 0) → (0 ≤ (0 : Int) ∧ (0 : Int) ≤ 1) ∧ R μ (some (kI 0))) ∧ (¬ (i < 0) → inA z 0 i ∧ (r32 (μ z i) ∧ r32 ((n - k) + i)) ∧ ((((n - k) + i) ≤ (μ z i)) → V_X0_pickNext R 4 [(0, kR z), (1, kI k), (2, kI n), (3, kI (i + (-1)))] μ) ∧ (¬ (((n - k) + i) ≤ (μ z i)) → inA z 0 i ∧ inA z 0 i ∧ V_X0_pickNext R 26 [(0, kR z), (1, kI k), (3, kI i)] (updm μ z i ((μ z i) + 1))))
  exact ⟨H.1, fun hc2 => ⟨⟨by omega, by omega⟩, (H.2.1 hc2)⟩, fun hc2 => ⟨isArr.in hz (H.2.2 hc2).1.1 (H.2.2 hc2).1.2, ⟨⟨(H.2.2 hc2).2.1, (H.2.2 hc2).2.2.1⟩, fun hc1 => ((H.2.2 hc2).2.2.2.1 hc1), fun hc1 => ⟨isArr.in hz ((H.2.2 hc2).2.2.2.2 hc1).1.1 ((H.2.2 hc2).2.2.2.2 hc1).1.2, ⟨isArr.in hz ((H.2.2 hc2).2.2.2.2 hc1).2.1.1 ((H.2.2 hc2).2.2.2.2 hc1).2.1.2, ((H.2.2 hc2).2.2.2.2 hc1).2.2⟩⟩⟩⟩⟩
set_option maxRecDepth 20000 in
theorem vc_X0_pickNext_26 {R : Mem → Option AV → Prop} {k i z : Int} {μ : Mem} (hz : isArr z 0 4) (H : V_X0_pickNext R 31 [(0, kR z), (1, kI k), (4, kI (i + 1))] μ) : V_X0_pickNext R 26 [(0, kR z), (1, kI k), (3, kI i)] μ := by
  refine vm_step2 mt_X0_pickNext ok_X0_pickNext [(4, [0, 1, 2, 3]), (26, [0, 1, 3]), (31, [0, 1, 4]), (49, [0, 1, 4])] 1000 ?_
  show V_X0_pickNext R 31 [(0, kR z), (1, kI k), (4, kI (i + 1))] μ
  exact H
set_option maxRecDepth 20000 in
theorem vc_X0_pickNext_31 {R : Mem → Option AV → Prop} {k j z : Int} {μ : Mem} (hz : isArr z 0 4) (H : r32 j ∧ r32 k ∧ ((k ≤ j) → R μ (some (kI 1))) ∧ (¬ (k ≤ j) → (0 ≤ (j - 1) ∧ (j - 1) < 4) ∧ (0 ≤ j ∧ j < 4) ∧ V_X0_pickNext R 49 [(0, kR z), (1, kI k), (4, kI j)] (updm μ z j ((μ z (j - 1)) + 1)))) : V_X0_pickNext R 31 [(0, kR z), (1, kI k), (4, kI j)] μ := by
  refine vm_step2 mt_X0_pickNext ok_X0_pickNext [(4, [0, 1, 2, 3]), (26, [0, 1, 3]), (31, [0, 1, 4]), (49, [0, 1, 4])] 1000 ?_
  show (r32 j ∧ r32 k) ∧ ((k ≤ j) → (0 ≤ (1 : Int) ∧ (1 : Int) ≤ 1) ∧ R μ (some (kI 1))) ∧ (¬ (k ≤ j) → inA z 0 (j - 1) ∧ inA z 0 j ∧ V_X0_pickNext R 49 [(0, kR z), (1, kI k), (4, kI j)] (updm μ z j ((μ z (j - 1)) + 1)))
  exact ⟨⟨H.1, H.2.1⟩, fun hc3 => ⟨⟨by omega, by omega⟩, (H.2.2.1 hc3)⟩, fun hc3 => ⟨isArr.in hz (H.2.2.2 hc3).1.1 (H.2.2.2 hc3).1.2, ⟨isArr.in hz (H.2.2.2 hc3).2.1.1 (H.2.2.2 hc3).2.1.2, (H.2.2.2 hc3).2.2⟩⟩⟩
set_option maxRecDepth 20000 in
theorem vc_X0_pickNext_49 {R : Mem → Option AV → Prop} {k j z : Int} {μ : Mem} (hz : isArr z 0 4) (H : V_X0_pickNext R 31 [(0, kR z), (1, kI k), (4, kI (j + 1))] μ) : V_X0_pickNext R 49 [(0, kR z), (1, kI k), (4, kI j)] μ := by
  refine vm_step2 mt_X0_pickNext ok_X0_pickNext [(4, [0, 1, 2, 3]), (26, [0, 1, 3]), (31, [0, 1, 4]), (49, [0, 1, 4])] 1000 ?_
  show V_X0_pickNext R 31 [(0, kR z), (1, kI k), (4, kI (j + 1))] μ
  exact H
theorem body_X0_pickNext {z k n : Int} {μ : Mem} {R : Mem → Option AV → Prop} (h : P_X0_pickNext z k n μ) (hR : ∀ (μ' : Mem) (r : Int), Q_X0_pickNext z k n μ μ' r → R μ' (some (kI r))) : V_X0_pickNext R 0 [(0, kR z), (1, kI k), (2, kI n)] μ := by
  obtain ⟨hz, hk, hn, hp⟩ := h
  have key : ∀ i : Int, -1 ≤ i → i ≤ k - 1 → (∀ j : Int, i < j → j < k → n - k + j ≤ μ z j) → V_X0_pickNext R 4 [(0, kR z), (1, kI k), (2, kI n), (3, kI i)] μ := by
    refine dn_ind (P := fun i => (∀ j : Int, i < j → j < k → n - k + j ≤ μ z j) → V_X0_pickNext R 4 [(0, kR z), (1, kI k), (2, kI n), (3, kI i)] μ) ?_ ?_
    · intro i i0 i1 ih hq
      have hi := Pk_at hp hk.2 (show 0 ≤ i by omega) (by omega)
      refine vc_X0_pickNext_4 hz ⟨rr (by omega), fun c => absurd c (by omega), fun _ => ⟨by omega, rr (by omega), rr (by omega), fun c => ih (fun j j0 j1 => ?_), fun c => ⟨by omega, by omega, vc_X0_pickNext_26 hz ?_⟩⟩⟩
      · by_cases e : j = i
        · subst e; exact c
        · exact hq j (by omega) j1
      · have kb : ∀ j : Int, i + 1 ≤ j → j ≤ k → ∀ m : Mem, (∀ y : Int, y ≠ z → m y = μ y) → (∀ j' : Int, 0 ≤ j' → j' < i → m z j' = μ z j') → (∀ j' : Int, i ≤ j' → j' < j → m z j' = μ z i + 1 + (j' - i)) → V_X0_pickNext R 31 [(0, kR z), (1, kI k), (4, kI j)] m := by
          refine up_ind (P := fun j => ∀ m : Mem, (∀ y : Int, y ≠ z → m y = μ y) → (∀ j' : Int, 0 ≤ j' → j' < i → m z j' = μ z j') → (∀ j' : Int, i ≤ j' → j' < j → m z j' = μ z i + 1 + (j' - i)) → V_X0_pickNext R 31 [(0, kR z), (1, kI k), (4, kI j)] m) ?_ ?_
          · intro j j0 j1 ihj m hf ha hb
            have hl := hb (j - 1) (by omega) (by omega)
            refine vc_X0_pickNext_31 hz ⟨rr (by omega), rr (by omega), fun c => absurd c (by omega), fun _ => ⟨by omega, by omega, vc_X0_pickNext_49 hz (ihj _ (fun y hy => by rw [ru_ne hy]; exact hf y hy) (fun j' x0 x1 => ?_) (fun j' x0 x1 => ?_))⟩⟩
            · rw [ru_eq, r1_ne (by omega)]; exact ha j' x0 x1
            · rw [ru_eq]
              by_cases e : j' = j
              · rw [e, r1_eq, hl]; omega
              · rw [r1_ne e]; exact hb j' x0 (by omega)
          · intro m hf ha hb
            exact vc_X0_pickNext_31 hz ⟨rr (by omega), rr (by omega), fun _ => hR m 1 ⟨Or.inl ⟨rfl, i, by omega, by omega, hq, ha, hb⟩, hf⟩, fun c => absurd (Int.le_refl _) c⟩
        refine kb (i + 1) (Int.le_refl _) (by omega) _ (fun y hy => by rw [ru_ne hy]) (fun j' x0 x1 => by rw [ru_eq, r1_ne (by omega)]) (fun j' x0 x1 => ?_)
        have e : j' = i := by omega
        rw [e, ru_eq, r1_eq]; omega
    · intro hq
      exact vc_X0_pickNext_4 hz ⟨rr (by omega), fun _ => hR μ 0 ⟨Or.inr ⟨rfl, rfl, fun j j0 j1 => hq j (by omega) j1⟩, fun _ _ => rfl⟩, fun c => absurd (show (-1 : Int) < 0 by omega) c⟩
  exact vc_X0_pickNext_0 hz (key (k - 1) (by omega) (Int.le_refl _) (fun j j0 j1 => absurd j1 (by omega)))
theorem ct_X0_pickNext : Ct mX0_pickNext 0 0 0 0 (nrmS S_X0_pickNext) := by
  refine ct_vm (own := RX0) (by decide +kernel) rfl ?_ ?_
  · intro as μ Q hS
    unfold S_X0_pickNext at hS
    split at hS
    · exact Nat.le_of_ble_eq_true rfl
    · exact hS.elim
  · intro as μ R hS
    unfold S_X0_pickNext at hS
    split at hS
    · exact body_X0_pickNext hS.1 hS.2
    · exact hS.elim
/-! a game's object -/
def Fm (μ : Mem) (g : Int) : Int → Int → Int := fun c r => μ (g + 2) (c * 24 + r)
def ChR (μ : Mem) (g : Int) : Prop := ∀ i n : Int, 1 ≤ i → i ≤ 3 → 0 ≤ n → n < 24 → μ (g + 6) (i * 24 + n) = chV i n
theorem isG_two {g : Int} (h : isG g) : g = 156 ∨ g = 167 := by
  unfold isG at h
  rcases List.mem_cons.mp h with q | q
  · exact Or.inl q
  · rcases List.mem_cons.mp q with q | q
    · exact Or.inr q
    · cases q
def P_X0_minuteAt (g l c : Int) (μ : Mem) : Prop := isG g ∧ (0 ≤ l ∧ l < 4) ∧ (0 ≤ c ∧ c < 4) ∧ (0 ≤ μ (g + 4) l ∧ μ (g + 4) l < 4) ∧ (0 ≤ μ (g + 5) c ∧ μ (g + 5) c < 24) ∧ r32 (Fm μ g (μ (g + 4) l) (μ (g + 5) c))
def F_X0_minuteAt (g l c : Int) (μ : Mem) : Int := Fm μ g (μ (g + 4) l) (μ (g + 5) c)
def S_X0_minuteAt : S0t := fun as μ Q => match as with
  | [(2, x0), (0, x1), (0, x2)] => P_X0_minuteAt x0 x1 x2 μ ∧ Q μ (some (kL (F_X0_minuteAt x0 x1 x2 μ)))
  | _ => False
theorem mono_X0_minuteAt : Mono S_X0_minuteAt := by
  intro as μ Q Q' h hS
  unfold S_X0_minuteAt at hS ⊢
  split at hS
  · exact ⟨hS.1, h _ _ hS.2⟩
  · exact hS.elim
def iX0_minuteAt : Inf := (kX0_minuteAt, fTX0, pTX0, cTX0, lTX0, sTX0, [])
theorem ok_X0_minuteAt : infOK iX0_minuteAt mX0_minuteAt RX0 0 0 := ⟨kkX0_minuteAt, fTX0_ok, pTX0_ok _, cTX0_ok, lTX0_ok, sTX0_ok, c_nil⟩
theorem mt_X0_minuteAt : mtOK [] RX0 0 0 := mt_nil
abbrev V_X0_minuteAt (R : Mem → Option AV → Prop) (pc : Nat) (lc : List (Nat × AV)) (μ : Mem) : Prop := VM mX0_minuteAt RX0 0 0 R pc lc [] μ
set_option maxRecDepth 20000 in
theorem vc_X0_minuteAt_0 {R : Mem → Option AV → Prop} {l c g : Int} {μ : Mem} (hg : isG g) (H : (0 ≤ l ∧ l < 4) ∧ (0 ≤ c ∧ c < 4) ∧ (0 ≤ (((μ (g + 4) l) * 24) + (μ (g + 5) c)) ∧ (((μ (g + 4) l) * 24) + (μ (g + 5) c)) < 96) ∧ r32 (μ (g + 2) (((μ (g + 4) l) * 24) + (μ (g + 5) c))) ∧ R μ (some (kL (μ (g + 2) (((μ (g + 4) l) * 24) + (μ (g + 5) c)))))) : V_X0_minuteAt R 0 [(0, kR g), (1, kI l), (2, kI c)] μ := by
  refine vm_step2 mt_X0_minuteAt ok_X0_minuteAt [] 1000 ?_
  show isC g 0 ∧ isC g 0 ∧ inA (g + 4) 0 l ∧ isC g 0 ∧ inA (g + 5) 0 c ∧ inA (g + 2) 0 (((μ (g + 4) l) * 24) + (μ (g + 5) c)) ∧ r32 (μ (g + 2) (((μ (g + 4) l) * 24) + (μ (g + 5) c))) ∧ R μ (some (kL (μ (g + 2) (((μ (g + 4) l) * 24) + (μ (g + 5) c)))))
  exact ⟨isG_C hg, ⟨isG_C hg, ⟨isArr.in (Gm_cellPick hg) H.1.1 H.1.2, ⟨isG_C hg, ⟨isArr.in (Gm_rowPick hg) H.2.1.1 H.2.1.2, ⟨isArr.in (Gm_found hg) H.2.2.1.1 H.2.2.1.2, ⟨H.2.2.2.1, H.2.2.2.2⟩⟩⟩⟩⟩⟩⟩
theorem body_X0_minuteAt {g l c : Int} {μ : Mem} {R : Mem → Option AV → Prop} (h : P_X0_minuteAt g l c μ) (hR : R μ (some (kL (F_X0_minuteAt g l c μ)))) : V_X0_minuteAt R 0 [(0, kR g), (1, kI l), (2, kI c)] μ := by
  obtain ⟨hg, hl, hc, h1, h2, h3⟩ := h
  exact vc_X0_minuteAt_0 hg ⟨hl, hc, by omega, h3, hR⟩
theorem ct_X0_minuteAt : Ct mX0_minuteAt 0 0 0 0 (nrmS S_X0_minuteAt) := by
  refine ct_vm (own := RX0) (by decide +kernel) rfl ?_ ?_
  · intro as μ Q hS
    unfold S_X0_minuteAt at hS
    split at hS
    · exact Nat.le_of_ble_eq_true rfl
    · exact hS.elim
  · intro as μ R hS
    unfold S_X0_minuteAt at hS
    split at hS
    · exact body_X0_minuteAt hS.1 hS.2
    · exact hS.elim
def P_X0_rankOf (g k : Int) (μ : Mem) : Prop := isG g ∧ (0 ≤ k ∧ k ≤ 3) ∧ (∀ i : Int, 0 ≤ i → i < k → 0 ≤ μ (g + 5) i ∧ μ (g + 5) i < 24) ∧ ChR μ g
def F_X0_rankOf (g k : Int) (μ : Mem) : Int := rkV k (μ (g + 5))
def S_X0_rankOf : S0t := fun as μ Q => match as with
  | [(2, x0), (0, x1)] => P_X0_rankOf x0 x1 μ ∧ Q μ (some (kI (F_X0_rankOf x0 x1 μ)))
  | _ => False
theorem mono_X0_rankOf : Mono S_X0_rankOf := by
  intro as μ Q Q' h hS
  unfold S_X0_rankOf at hS ⊢
  split at hS
  · exact ⟨hS.1, h _ _ hS.2⟩
  · exact hS.elim
def iX0_rankOf : Inf := (kX0_rankOf, fTX0, pTX0, cTX0, lTX0, sTX0, [])
theorem ok_X0_rankOf : infOK iX0_rankOf mX0_rankOf RX0 0 0 := ⟨kkX0_rankOf, fTX0_ok, pTX0_ok _, cTX0_ok, lTX0_ok, sTX0_ok, c_nil⟩
theorem mt_X0_rankOf : mtOK [] RX0 0 0 := mt_nil
abbrev V_X0_rankOf (R : Mem → Option AV → Prop) (pc : Nat) (lc : List (Nat × AV)) (μ : Mem) : Prop := VM mX0_rankOf RX0 0 0 R pc lc [] μ
set_option maxRecDepth 20000 in
theorem vc_X0_rankOf_0 {R : Mem → Option AV → Prop} {k g : Int} {μ : Mem} (hg : isG g) (H : V_X0_rankOf R 4 [(0, kR g), (1, kI k), (2, kI 0), (3, kI 0)] μ) : V_X0_rankOf R 0 [(0, kR g), (1, kI k)] μ := by
  refine vm_step2 mt_X0_rankOf ok_X0_rankOf [(4, [0, 1, 2, 3])] 1000 ?_
  show V_X0_rankOf R 4 [(0, kR g), (1, kI k), (2, kI 0), (3, kI 0)] μ
  exact H
set_option maxRecDepth 20000 in
theorem vc_X0_rankOf_4 {R : Mem → Option AV → Prop} {k r i g : Int} {μ : Mem} (hg : isG g) (H : r32 i ∧ r32 k ∧ ((k ≤ i) → R μ (some (kI r))) ∧ (¬ (k ≤ i) → (0 ≤ i ∧ i < 4) ∧ (0 ≤ (((i + 1) * 24) + (μ (g + 5) i)) ∧ (((i + 1) * 24) + (μ (g + 5) i)) < 96) ∧ V_X0_rankOf R 4 [(0, kR g), (1, kI k), (2, kI (r + (μ (g + 6) (((i + 1) * 24) + (μ (g + 5) i))))), (3, kI (i + 1))] μ)) : V_X0_rankOf R 4 [(0, kR g), (1, kI k), (2, kI r), (3, kI i)] μ := by
  refine vm_step2 mt_X0_rankOf ok_X0_rankOf [(4, [0, 1, 2, 3])] 1000 ?_
  show (r32 i ∧ r32 k) ∧ ((k ≤ i) → R μ (some (kI r))) ∧ (¬ (k ≤ i) → isC g 0 ∧ isC g 0 ∧ inA (g + 5) 0 i ∧ inA (g + 6) 0 (((i + 1) * 24) + (μ (g + 5) i)) ∧ V_X0_rankOf R 4 [(0, kR g), (1, kI k), (2, kI (r + (μ (g + 6) (((i + 1) * 24) + (μ (g + 5) i))))), (3, kI (i + 1))] μ)
  exact ⟨⟨H.1, H.2.1⟩, fun hc1 => (H.2.2.1 hc1), fun hc1 => ⟨isG_C hg, ⟨isG_C hg, ⟨isArr.in (Gm_rowPick hg) (H.2.2.2 hc1).1.1 (H.2.2.2 hc1).1.2, ⟨isArr.in (Gm_choices hg) (H.2.2.2 hc1).2.1.1 (H.2.2.2 hc1).2.1.2, (H.2.2.2 hc1).2.2⟩⟩⟩⟩⟩
theorem body_X0_rankOf {g k : Int} {μ : Mem} {R : Mem → Option AV → Prop} (h : P_X0_rankOf g k μ) (hR : R μ (some (kI (F_X0_rankOf g k μ)))) : V_X0_rankOf R 0 [(0, kR g), (1, kI k)] μ := by
  obtain ⟨hg, hk, hp, hc⟩ := h
  have key : ∀ i : Int, 0 ≤ i → i ≤ k → V_X0_rankOf R 4 [(0, kR g), (1, kI k), (2, kI (rkV i (μ (g + 5)))), (3, kI i)] μ := by
    refine up_ind (P := fun i => V_X0_rankOf R 4 [(0, kR g), (1, kI k), (2, kI (rkV i (μ (g + 5)))), (3, kI i)] μ) ?_ ?_
    · intro i i0 i1 ih
      have hi := hp i i0 i1
      have e := hc (i + 1) (μ (g + 5) i) (by omega) (by omega) hi.1 hi.2
      rw [rk_s i0] at ih
      refine vc_X0_rankOf_4 hg ⟨rr (by omega), rr (by omega), fun c => absurd c (by omega), fun _ => ⟨by omega, by omega, ?_⟩⟩
      rw [e]
      exact ih
    · exact vc_X0_rankOf_4 hg ⟨rr (by omega), rr (by omega), fun _ => hR, fun c => absurd (Int.le_refl _) c⟩
  exact vc_X0_rankOf_0 hg (key 0 (Int.le_refl _) hk.1)
theorem ct_X0_rankOf : Ct mX0_rankOf 0 0 0 0 (nrmS S_X0_rankOf) := by
  refine ct_vm (own := RX0) (by decide +kernel) rfl ?_ ?_
  · intro as μ Q hS
    unfold S_X0_rankOf at hS
    split at hS
    · exact Nat.le_of_ble_eq_true rfl
    · exact hS.elim
  · intro as μ R hS
    unfold S_X0_rankOf at hS
    split at hS
    · exact body_X0_rankOf hS.1 hS.2
    · exact hS.elim
def P_X0_shareOf (g p : Int) (μ : Mem) : Prop := isG g ∧ r32 p ∧ (0 ≤ μ g 14 ∧ μ g 14 ≤ 4) ∧ (∀ i : Int, 0 ≤ i → i < μ g 14 → 0 ≤ μ (g + 4) i ∧ μ (g + 4) i < 4) ∧ ∀ i : Int, 0 ≤ i → i < μ g 14 → r32 (μ (g + 1) (μ (g + 4) i))
def F_X0_shareOf (g p : Int) (μ : Mem) : Int := if frst (fun i => decide (μ (g + 1) (μ (g + 4) i) = p)) (μ g 14) < 0 then 0 else μ (g + 9) (frst (fun i => decide (μ (g + 1) (μ (g + 4) i) = p)) (μ g 14))
def S_X0_shareOf : S0t := fun as μ Q => match as with
  | [(2, x0), (0, x1)] => P_X0_shareOf x0 x1 μ ∧ Q μ (some (kL (F_X0_shareOf x0 x1 μ)))
  | _ => False
theorem mono_X0_shareOf : Mono S_X0_shareOf := by
  intro as μ Q Q' h hS
  unfold S_X0_shareOf at hS ⊢
  split at hS
  · exact ⟨hS.1, h _ _ hS.2⟩
  · exact hS.elim
def iX0_shareOf : Inf := (kX0_shareOf, fTX0, pTX0, cTX0, lTX0, sTX0, [])
theorem ok_X0_shareOf : infOK iX0_shareOf mX0_shareOf RX0 0 0 := ⟨kkX0_shareOf, fTX0_ok, pTX0_ok _, cTX0_ok, lTX0_ok, sTX0_ok, c_nil⟩
theorem mt_X0_shareOf : mtOK [] RX0 0 0 := mt_nil
abbrev V_X0_shareOf (R : Mem → Option AV → Prop) (pc : Nat) (lc : List (Nat × AV)) (μ : Mem) : Prop := VM mX0_shareOf RX0 0 0 R pc lc [] μ
set_option maxRecDepth 20000 in
theorem vc_X0_shareOf_0 {R : Mem → Option AV → Prop} {p g : Int} {μ : Mem} (hg : isG g) (H : V_X0_shareOf R 2 [(0, kR g), (1, kI p), (2, kI 0)] μ) : V_X0_shareOf R 0 [(0, kR g), (1, kI p)] μ := by
  refine vm_step2 mt_X0_shareOf ok_X0_shareOf [(2, [0, 1, 2])] 1000 ?_
  show V_X0_shareOf R 2 [(0, kR g), (1, kI p), (2, kI 0)] μ
  exact H
set_option maxRecDepth 20000 in
theorem vc_X0_shareOf_2 {R : Mem → Option AV → Prop} {p i g : Int} {μ : Mem} (hg : isG g) (H : r32 i ∧ r32 (μ g 14) ∧ (((μ g 14) ≤ i) → R μ (some (kL 0))) ∧ (¬ ((μ g 14) ≤ i) → (0 ≤ i ∧ i < 4) ∧ (0 ≤ (μ (g + 4) i) ∧ (μ (g + 4) i) < 4) ∧ r32 (μ (g + 1) (μ (g + 4) i)) ∧ r32 p ∧ ((¬ (μ (g + 1) (μ (g + 4) i)) = p) → V_X0_shareOf R 2 [(0, kR g), (1, kI p), (2, kI (i + 1))] μ) ∧ (¬ (¬ (μ (g + 1) (μ (g + 4) i)) = p) → (0 ≤ i ∧ i < 4) ∧ R μ (some (kL (μ (g + 9) i)))))) : V_X0_shareOf R 2 [(0, kR g), (1, kI p), (2, kI i)] μ := by
  refine vm_step2 mt_X0_shareOf ok_X0_shareOf [(2, [0, 1, 2])] 1000 ?_
  show isC g 0 ∧ (r32 i ∧ r32 (μ g 14)) ∧ (((μ g 14) ≤ i) → R μ (some (kL 0))) ∧ (¬ ((μ g 14) ≤ i) → isC g 0 ∧ isC g 0 ∧ inA (g + 4) 0 i ∧ inA (g + 1) 0 (μ (g + 4) i) ∧ (r32 (μ (g + 1) (μ (g + 4) i)) ∧ r32 p) ∧ ((¬ (μ (g + 1) (μ (g + 4) i)) = p) → V_X0_shareOf R 2 [(0, kR g), (1, kI p), (2, kI (i + 1))] μ) ∧ (¬ (¬ (μ (g + 1) (μ (g + 4) i)) = p) → isC g 0 ∧ inA (g + 9) 1 i ∧ R μ (some (kL (μ (g + 9) i)))))
  exact ⟨isG_C hg, ⟨⟨H.1, H.2.1⟩, fun hc2 => (H.2.2.1 hc2), fun hc2 => ⟨isG_C hg, ⟨isG_C hg, ⟨isArr.in (Gm_cellPick hg) (H.2.2.2 hc2).1.1 (H.2.2.2 hc2).1.2, ⟨isArr.in (Gm_cellar hg) (H.2.2.2 hc2).2.1.1 (H.2.2.2 hc2).2.1.2, ⟨⟨(H.2.2.2 hc2).2.2.1, (H.2.2.2 hc2).2.2.2.1⟩, fun hc1 => ((H.2.2.2 hc2).2.2.2.2.1 hc1), fun hc1 => ⟨isG_C hg, ⟨isArr.in (Gm_cellShare hg) ((H.2.2.2 hc2).2.2.2.2.2 hc1).1.1 ((H.2.2.2 hc2).2.2.2.2.2 hc1).1.2, ((H.2.2.2 hc2).2.2.2.2.2 hc1).2⟩⟩⟩⟩⟩⟩⟩⟩⟩
theorem body_X0_shareOf {g p : Int} {μ : Mem} {R : Mem → Option AV → Prop} (h : P_X0_shareOf g p μ) (hR : R μ (some (kL (F_X0_shareOf g p μ)))) : V_X0_shareOf R 0 [(0, kR g), (1, kI p)] μ := by
  obtain ⟨hg, hp, hs, hc, hr⟩ := h
  unfold F_X0_shareOf at hR
  have key : ∀ i : Int, 0 ≤ i → i ≤ μ g 14 → (∀ j : Int, 0 ≤ j → j < i → decide (μ (g + 1) (μ (g + 4) j) = p) = false) → V_X0_shareOf R 2 [(0, kR g), (1, kI p), (2, kI i)] μ := by
    refine up_ind (P := fun i => (∀ j : Int, 0 ≤ j → j < i → decide (μ (g + 1) (μ (g + 4) j) = p) = false) → V_X0_shareOf R 2 [(0, kR g), (1, kI p), (2, kI i)] μ) ?_ ?_
    · intro i i0 i1 ih hq
      have hi := hc i i0 i1
      refine vc_X0_shareOf_2 hg ⟨rr (by omega), rr (by omega), fun c => absurd c (by omega), fun _ => ⟨by omega, hi, hr i i0 i1, hp, fun c => ih (fun j j0 j1 => ?_), fun c => ⟨by omega, ?_⟩⟩⟩
      · by_cases e : j = i
        · subst e; exact decide_eq_false c
        · exact hq j j0 (by omega)
      · have c2 : μ (g + 1) (μ (g + 4) i) = p := Classical.byContradiction c
        have e := frst_at (q := fun i => decide (μ (g + 1) (μ (g + 4) i) = p)) (n := μ g 14) (k := i) i0 i1 (decide_eq_true c2) hq
        rw [e, if_neg (by omega)] at hR
        exact hR
    · intro hq
      refine vc_X0_shareOf_2 hg ⟨rr (by omega), rr (by omega), fun _ => ?_, fun c => absurd (Int.le_refl _) c⟩
      rw [frst_none hs.1 hq, if_pos (by omega)] at hR
      exact hR
  exact vc_X0_shareOf_0 hg (key 0 (Int.le_refl _) hs.1 (fun j j0 j1 => absurd j0 (by omega)))
theorem ct_X0_shareOf : Ct mX0_shareOf 0 0 0 0 (nrmS S_X0_shareOf) := by
  refine ct_vm (own := RX0) (by decide +kernel) rfl ?_ ?_
  · intro as μ Q hS
    unfold S_X0_shareOf at hS
    split at hS
    · exact Nat.le_of_ble_eq_true rfl
    · exact hS.elim
  · intro as μ R hS
    unfold S_X0_shareOf at hS
    split at hS
    · exact body_X0_shareOf hS.1 hS.2
    · exact hS.elim
def P_X0_isSettled (g : Int) (μ : Mem) : Prop := isG g ∧ (∀ i : Int, 0 ≤ i → i < 96 → r32 (μ (g + 2) i) ∧ r32 (μ (g + 3) i)) ∧ r32 (μ g 5) ∧ r32 (μ g 0)
def F_X0_isSettled (g : Int) (μ : Mem) : Int := if (allV (fun i => decide (μ (g + 2) i = μ (g + 3) i)) 96 && decide (μ g 5 = μ g 0)) = true then 1 else 0
def S_X0_isSettled : S0t := fun as μ Q => match as with
  | [(2, x0)] => P_X0_isSettled x0 μ ∧ Q μ (some (kI (F_X0_isSettled x0 μ)))
  | _ => False
theorem mono_X0_isSettled : Mono S_X0_isSettled := by
  intro as μ Q Q' h hS
  unfold S_X0_isSettled at hS ⊢
  split at hS
  · exact ⟨hS.1, h _ _ hS.2⟩
  · exact hS.elim
def iX0_isSettled : Inf := (kX0_isSettled, fTX0, pTX0, cTX0, lTX0, sTX0, [])
theorem ok_X0_isSettled : infOK iX0_isSettled mX0_isSettled RX0 0 0 := ⟨kkX0_isSettled, fTX0_ok, pTX0_ok _, cTX0_ok, lTX0_ok, sTX0_ok, c_nil⟩
theorem mt_X0_isSettled : mtOK [] RX0 0 0 := mt_nil
abbrev V_X0_isSettled (R : Mem → Option AV → Prop) (pc : Nat) (lc : List (Nat × AV)) (μ : Mem) : Prop := VM mX0_isSettled RX0 0 0 R pc lc [] μ
set_option maxRecDepth 20000 in
theorem vc_X0_isSettled_0 {R : Mem → Option AV → Prop} {g : Int} {μ : Mem} (hg : isG g) (H : V_X0_isSettled R 2 [(0, kR g), (1, kI 0)] μ) : V_X0_isSettled R 0 [(0, kR g)] μ := by
  refine vm_step2 mt_X0_isSettled ok_X0_isSettled [(2, [0, 1])] 1000 ?_
  show V_X0_isSettled R 2 [(0, kR g), (1, kI 0)] μ
  exact H
set_option maxRecDepth 20000 in
theorem vc_X0_isSettled_2 {R : Mem → Option AV → Prop} {i g : Int} {μ : Mem} (hg : isG g) (H : r32 i ∧ (((96 : Int) ≤ i) → r32 (μ g 5) ∧ r32 (μ g 0) ∧ ((¬ (μ g 5) = (μ g 0)) → R μ (some (kI 0))) ∧ (¬ (¬ (μ g 5) = (μ g 0)) → R μ (some (kI 1)))) ∧ (¬ ((96 : Int) ≤ i) → (0 ≤ i ∧ i < 96) ∧ (0 ≤ i ∧ i < 96) ∧ r32 (μ (g + 2) i) ∧ r32 (μ (g + 3) i) ∧ (((μ (g + 2) i) = (μ (g + 3) i)) → V_X0_isSettled R 2 [(0, kR g), (1, kI (i + 1))] μ) ∧ (¬ ((μ (g + 2) i) = (μ (g + 3) i)) → R μ (some (kI 0))))) : V_X0_isSettled R 2 [(0, kR g), (1, kI i)] μ := by
  refine vm_step2 mt_X0_isSettled ok_X0_isSettled [(2, [0, 1])] 1000 ?_
  show isC g 0 ∧ ((0 ≤ (g + 2) ∧ (g + 2) < 232) ∧ (LAY ((g + 2)).toNat).1 ≤ 3) ∧ (r32 i ∧ r32 (((LAY (g + 2).toNat).2 : Int))) ∧ (((((LAY (g + 2).toNat).2 : Int)) ≤ i) → isC g 0 ∧ isC g 0 ∧ (r32 (μ g 5) ∧ r32 (μ g 0)) ∧ ((¬ (μ g 5) = (μ g 0)) → (0 ≤ (0 : Int) ∧ (0 : Int) ≤ 1) ∧ R μ (some (kI 0))) ∧ (¬ (¬ (μ g 5) = (μ g 0)) → (0 ≤ (1 : Int) ∧ (1 : Int) ≤ 1) ∧ R μ (some (kI 1)))) ∧ (¬ ((((LAY (g + 2).toNat).2 : Int)) ≤ i) → isC g 0 ∧ inA (g + 2) 0 i ∧ isC g 0 ∧ inA (g + 3) 0 i ∧ (r32 (μ (g + 2) i) ∧ r32 (μ (g + 3) i)) ∧ (((μ (g + 2) i) = (μ (g + 3) i)) → V_X0_isSettled R 2 [(0, kR g), (1, kI (i + 1))] μ) ∧ (¬ ((μ (g + 2) i) = (μ (g + 3) i)) → (0 ≤ (0 : Int) ∧ (0 : Int) ≤ 1) ∧ R μ (some (kI 0))))
  exact ⟨isG_C hg, ⟨⟨(Gm_found hg).1, by rw [(Gm_found hg).2]; exact Nat.zero_le 3⟩, by rw [(Gm_found hg).2]; exact ⟨⟨H.1, by unfold r32; omega⟩, fun hc3 => ⟨isG_C hg, ⟨isG_C hg, ⟨⟨(H.2.1 hc3).1, (H.2.1 hc3).2.1⟩, fun hc1 => ⟨⟨by omega, by omega⟩, ((H.2.1 hc3).2.2.1 hc1)⟩, fun hc1 => ⟨⟨by omega, by omega⟩, ((H.2.1 hc3).2.2.2 hc1)⟩⟩⟩⟩, fun hc3 => ⟨isG_C hg, ⟨isArr.in (Gm_found hg) (H.2.2 hc3).1.1 (H.2.2 hc3).1.2, ⟨isG_C hg, ⟨isArr.in (Gm_settled hg) (H.2.2 hc3).2.1.1 (H.2.2 hc3).2.1.2, ⟨⟨(H.2.2 hc3).2.2.1, (H.2.2 hc3).2.2.2.1⟩, fun hc2 => ((H.2.2 hc3).2.2.2.2.1 hc2), fun hc2 => ⟨⟨by omega, by omega⟩, ((H.2.2 hc3).2.2.2.2.2 hc2)⟩⟩⟩⟩⟩⟩⟩⟩⟩
theorem body_X0_isSettled {g : Int} {μ : Mem} {R : Mem → Option AV → Prop} (h : P_X0_isSettled g μ) (hR : R μ (some (kI (F_X0_isSettled g μ)))) : V_X0_isSettled R 0 [(0, kR g)] μ := by
  obtain ⟨hg, hr, h5, h0⟩ := h
  unfold F_X0_isSettled at hR
  have key : ∀ i : Int, 0 ≤ i → i ≤ 96 → (∀ j : Int, 0 ≤ j → j < i → μ (g + 2) j = μ (g + 3) j) → V_X0_isSettled R 2 [(0, kR g), (1, kI i)] μ := by
    refine up_ind (P := fun i => (∀ j : Int, 0 ≤ j → j < i → μ (g + 2) j = μ (g + 3) j) → V_X0_isSettled R 2 [(0, kR g), (1, kI i)] μ) ?_ ?_
    · intro i i0 i1 ih hq
      have hi := hr i i0 i1
      refine vc_X0_isSettled_2 hg ⟨rr (by omega), fun c => absurd c (by omega), fun _ => ⟨by omega, by omega, hi.1, hi.2, fun c => ih (fun j j0 j1 => ?_), fun c => ?_⟩⟩
      · by_cases e : j = i
        · subst e; exact c
        · exact hq j j0 (by omega)
      · rw [if_neg (fun q => c (of_decide_eq_true ((allV_ok (by omega)).mp (Bool.and_eq_true _ _ |>.mp q).1 i i0 i1)))] at hR
        exact hR
    · intro hq
      have e : allV (fun i => decide (μ (g + 2) i = μ (g + 3) i)) 96 = true := (allV_ok (by omega)).mpr fun i i0 i1 => decide_eq_true (hq i i0 i1)
      rw [e, Bool.true_and] at hR
      refine vc_X0_isSettled_2 hg ⟨rr (by omega), fun _ => ⟨h5, h0, fun c => ?_, fun c => ?_⟩, fun c => absurd (Int.le_refl _) c⟩
      · rw [if_neg (fun q => c (of_decide_eq_true q))] at hR; exact hR
      · rw [if_pos (decide_eq_true (Classical.byContradiction c))] at hR; exact hR
  exact vc_X0_isSettled_0 hg (key 0 (Int.le_refl _) (by omega) (fun j j0 j1 => absurd j0 (by omega)))
theorem ct_X0_isSettled : Ct mX0_isSettled 0 0 0 0 (nrmS S_X0_isSettled) := by
  refine ct_vm (own := RX0) (by decide +kernel) rfl ?_ ?_
  · intro as μ Q hS
    unfold S_X0_isSettled at hS
    split at hS
    · exact Nat.le_of_ble_eq_true rfl
    · exact hS.elim
  · intro as μ R hS
    unfold S_X0_isSettled at hS
    split at hS
    · exact body_X0_isSettled hS.1 hS.2
    · exact hS.elim
def P_X0_worthOfCell (g c k : Int) (μ : Mem) : Prop := isG g ∧ (0 ≤ c ∧ c < 4) ∧ (0 ≤ k ∧ k ≤ 4) ∧ ∀ i : Int, 0 ≤ i → i < k → (0 ≤ μ (g + 5) i ∧ μ (g + 5) i < 24) ∧ r32 (Fm μ g c (μ (g + 5) i))
def F_X0_worthOfCell (g c k : Int) (μ : Mem) : Int := sm (fun i => μ (g + 10) i * Fm μ g c (μ (g + 5) i)) k
def S_X0_worthOfCell : S0t := fun as μ Q => match as with
  | [(2, x0), (0, x1), (0, x2)] => P_X0_worthOfCell x0 x1 x2 μ ∧ Q μ (some (kL (F_X0_worthOfCell x0 x1 x2 μ)))
  | _ => False
theorem mono_X0_worthOfCell : Mono S_X0_worthOfCell := by
  intro as μ Q Q' h hS
  unfold S_X0_worthOfCell at hS ⊢
  split at hS
  · exact ⟨hS.1, h _ _ hS.2⟩
  · exact hS.elim
def iX0_worthOfCell : Inf := (kX0_worthOfCell, fTX0, pTX0, cTX0, lTX0, sTX0, [])
theorem ok_X0_worthOfCell : infOK iX0_worthOfCell mX0_worthOfCell RX0 0 0 := ⟨kkX0_worthOfCell, fTX0_ok, pTX0_ok _, cTX0_ok, lTX0_ok, sTX0_ok, c_nil⟩
theorem mt_X0_worthOfCell : mtOK [] RX0 0 0 := mt_nil
abbrev V_X0_worthOfCell (R : Mem → Option AV → Prop) (pc : Nat) (lc : List (Nat × AV)) (μ : Mem) : Prop := VM mX0_worthOfCell RX0 0 0 R pc lc [] μ
set_option maxRecDepth 20000 in
theorem vc_X0_worthOfCell_0 {R : Mem → Option AV → Prop} {c k g : Int} {μ : Mem} (hg : isG g) (H : V_X0_worthOfCell R 5 [(0, kR g), (1, kI c), (2, kI k), (3, kL 0), (5, kI 0)] μ) : V_X0_worthOfCell R 0 [(0, kR g), (1, kI c), (2, kI k)] μ := by
  refine vm_step2 mt_X0_worthOfCell ok_X0_worthOfCell [(5, [0, 1, 2, 3, 5])] 1000 ?_
  show V_X0_worthOfCell R 5 [(0, kR g), (1, kI c), (2, kI k), (3, kL 0), (5, kI 0)] μ
  exact H
set_option maxRecDepth 20000 in
theorem vc_X0_worthOfCell_5 {R : Mem → Option AV → Prop} {c k s i g : Int} {μ : Mem} (hg : isG g) (H : r32 i ∧ r32 k ∧ ((k ≤ i) → R μ (some (kL s))) ∧ (¬ (k ≤ i) → (0 ≤ i ∧ i < 4) ∧ (0 ≤ i ∧ i < 4) ∧ (0 ≤ ((c * 24) + (μ (g + 5) i)) ∧ ((c * 24) + (μ (g + 5) i)) < 96) ∧ r32 (μ (g + 2) ((c * 24) + (μ (g + 5) i))) ∧ V_X0_worthOfCell R 5 [(0, kR g), (1, kI c), (2, kI k), (3, kL (s + ((μ (g + 10) i) * (μ (g + 2) ((c * 24) + (μ (g + 5) i)))))), (5, kI (i + 1))] μ)) : V_X0_worthOfCell R 5 [(0, kR g), (1, kI c), (2, kI k), (3, kL s), (5, kI i)] μ := by
  refine vm_step2 mt_X0_worthOfCell ok_X0_worthOfCell [(5, [0, 1, 2, 3, 5])] 1000 ?_
  show (r32 i ∧ r32 k) ∧ ((k ≤ i) → R μ (some (kL s))) ∧ (¬ (k ≤ i) → isC g 0 ∧ inA (g + 10) 1 i ∧ isC g 0 ∧ isC g 0 ∧ inA (g + 5) 0 i ∧ inA (g + 2) 0 ((c * 24) + (μ (g + 5) i)) ∧ r32 (μ (g + 2) ((c * 24) + (μ (g + 5) i))) ∧ V_X0_worthOfCell R 5 [(0, kR g), (1, kI c), (2, kI k), (3, kL (s + ((μ (g + 10) i) * (μ (g + 2) ((c * 24) + (μ (g + 5) i)))))), (5, kI (i + 1))] μ)
  exact ⟨⟨H.1, H.2.1⟩, fun hc1 => (H.2.2.1 hc1), fun hc1 => ⟨isG_C hg, ⟨isArr.in (Gm_rowShare hg) (H.2.2.2 hc1).1.1 (H.2.2.2 hc1).1.2, ⟨isG_C hg, ⟨isG_C hg, ⟨isArr.in (Gm_rowPick hg) (H.2.2.2 hc1).2.1.1 (H.2.2.2 hc1).2.1.2, ⟨isArr.in (Gm_found hg) (H.2.2.2 hc1).2.2.1.1 (H.2.2.2 hc1).2.2.1.2, ⟨(H.2.2.2 hc1).2.2.2.1, (H.2.2.2 hc1).2.2.2.2⟩⟩⟩⟩⟩⟩⟩⟩
theorem body_X0_worthOfCell {g c k : Int} {μ : Mem} {R : Mem → Option AV → Prop} (h : P_X0_worthOfCell g c k μ) (hR : R μ (some (kL (F_X0_worthOfCell g c k μ)))) : V_X0_worthOfCell R 0 [(0, kR g), (1, kI c), (2, kI k)] μ := by
  obtain ⟨hg, hc, hk, hp⟩ := h
  have key : ∀ i : Int, 0 ≤ i → i ≤ k → V_X0_worthOfCell R 5 [(0, kR g), (1, kI c), (2, kI k), (3, kL (sm (fun i => μ (g + 10) i * Fm μ g c (μ (g + 5) i)) i)), (5, kI i)] μ := by
    refine up_ind (P := fun i => V_X0_worthOfCell R 5 [(0, kR g), (1, kI c), (2, kI k), (3, kL (sm (fun i => μ (g + 10) i * Fm μ g c (μ (g + 5) i)) i)), (5, kI i)] μ) ?_ ?_
    · intro i i0 i1 ih
      have hi := hp i i0 i1
      rw [sm_s i0] at ih
      exact vc_X0_worthOfCell_5 hg ⟨rr (by omega), rr (by omega), fun c => absurd c (by omega), fun _ => ⟨by omega, by omega, by omega, hi.2, ih⟩⟩
    · exact vc_X0_worthOfCell_5 hg ⟨rr (by omega), rr (by omega), fun _ => hR, fun c => absurd (Int.le_refl _) c⟩
  exact vc_X0_worthOfCell_0 hg (key 0 (Int.le_refl _) hk.1)
theorem ct_X0_worthOfCell : Ct mX0_worthOfCell 0 0 0 0 (nrmS S_X0_worthOfCell) := by
  refine ct_vm (own := RX0) (by decide +kernel) rfl ?_ ?_
  · intro as μ Q hS
    unfold S_X0_worthOfCell at hS
    split at hS
    · exact Nat.le_of_ble_eq_true rfl
    · exact hS.elim
  · intro as μ R hS
    unfold S_X0_worthOfCell at hS
    split at hS
    · exact body_X0_worthOfCell hS.1 hS.2
    · exact hS.elim
def P_X0_worthOfRow (g r k : Int) (μ : Mem) : Prop := isG g ∧ (0 ≤ r ∧ r < 24) ∧ (0 ≤ k ∧ k ≤ 4) ∧ ∀ i : Int, 0 ≤ i → i < k → (0 ≤ μ (g + 4) i ∧ μ (g + 4) i < 4) ∧ r32 (Fm μ g (μ (g + 4) i) r)
def F_X0_worthOfRow (g r k : Int) (μ : Mem) : Int := sm (fun i => μ (g + 9) i * Fm μ g (μ (g + 4) i) r) k
def S_X0_worthOfRow : S0t := fun as μ Q => match as with
  | [(2, x0), (0, x1), (0, x2)] => P_X0_worthOfRow x0 x1 x2 μ ∧ Q μ (some (kL (F_X0_worthOfRow x0 x1 x2 μ)))
  | _ => False
theorem mono_X0_worthOfRow : Mono S_X0_worthOfRow := by
  intro as μ Q Q' h hS
  unfold S_X0_worthOfRow at hS ⊢
  split at hS
  · exact ⟨hS.1, h _ _ hS.2⟩
  · exact hS.elim
def iX0_worthOfRow : Inf := (kX0_worthOfRow, fTX0, pTX0, cTX0, lTX0, sTX0, [])
theorem ok_X0_worthOfRow : infOK iX0_worthOfRow mX0_worthOfRow RX0 0 0 := ⟨kkX0_worthOfRow, fTX0_ok, pTX0_ok _, cTX0_ok, lTX0_ok, sTX0_ok, c_nil⟩
theorem mt_X0_worthOfRow : mtOK [] RX0 0 0 := mt_nil
abbrev V_X0_worthOfRow (R : Mem → Option AV → Prop) (pc : Nat) (lc : List (Nat × AV)) (μ : Mem) : Prop := VM mX0_worthOfRow RX0 0 0 R pc lc [] μ
set_option maxRecDepth 20000 in
theorem vc_X0_worthOfRow_0 {R : Mem → Option AV → Prop} {r k g : Int} {μ : Mem} (hg : isG g) (H : V_X0_worthOfRow R 5 [(0, kR g), (1, kI r), (2, kI k), (3, kL 0), (5, kI 0)] μ) : V_X0_worthOfRow R 0 [(0, kR g), (1, kI r), (2, kI k)] μ := by
  refine vm_step2 mt_X0_worthOfRow ok_X0_worthOfRow [(5, [0, 1, 2, 3, 5])] 1000 ?_
  show V_X0_worthOfRow R 5 [(0, kR g), (1, kI r), (2, kI k), (3, kL 0), (5, kI 0)] μ
  exact H
set_option maxRecDepth 20000 in
theorem vc_X0_worthOfRow_5 {R : Mem → Option AV → Prop} {r k s i g : Int} {μ : Mem} (hg : isG g) (H : r32 i ∧ r32 k ∧ ((k ≤ i) → R μ (some (kL s))) ∧ (¬ (k ≤ i) → (0 ≤ i ∧ i < 4) ∧ (0 ≤ i ∧ i < 4) ∧ (0 ≤ (((μ (g + 4) i) * 24) + r) ∧ (((μ (g + 4) i) * 24) + r) < 96) ∧ r32 (μ (g + 2) (((μ (g + 4) i) * 24) + r)) ∧ V_X0_worthOfRow R 5 [(0, kR g), (1, kI r), (2, kI k), (3, kL (s + ((μ (g + 9) i) * (μ (g + 2) (((μ (g + 4) i) * 24) + r))))), (5, kI (i + 1))] μ)) : V_X0_worthOfRow R 5 [(0, kR g), (1, kI r), (2, kI k), (3, kL s), (5, kI i)] μ := by
  refine vm_step2 mt_X0_worthOfRow ok_X0_worthOfRow [(5, [0, 1, 2, 3, 5])] 1000 ?_
  show (r32 i ∧ r32 k) ∧ ((k ≤ i) → R μ (some (kL s))) ∧ (¬ (k ≤ i) → isC g 0 ∧ inA (g + 9) 1 i ∧ isC g 0 ∧ isC g 0 ∧ inA (g + 4) 0 i ∧ inA (g + 2) 0 (((μ (g + 4) i) * 24) + r) ∧ r32 (μ (g + 2) (((μ (g + 4) i) * 24) + r)) ∧ V_X0_worthOfRow R 5 [(0, kR g), (1, kI r), (2, kI k), (3, kL (s + ((μ (g + 9) i) * (μ (g + 2) (((μ (g + 4) i) * 24) + r))))), (5, kI (i + 1))] μ)
  exact ⟨⟨H.1, H.2.1⟩, fun hc1 => (H.2.2.1 hc1), fun hc1 => ⟨isG_C hg, ⟨isArr.in (Gm_cellShare hg) (H.2.2.2 hc1).1.1 (H.2.2.2 hc1).1.2, ⟨isG_C hg, ⟨isG_C hg, ⟨isArr.in (Gm_cellPick hg) (H.2.2.2 hc1).2.1.1 (H.2.2.2 hc1).2.1.2, ⟨isArr.in (Gm_found hg) (H.2.2.2 hc1).2.2.1.1 (H.2.2.2 hc1).2.2.1.2, ⟨(H.2.2.2 hc1).2.2.2.1, (H.2.2.2 hc1).2.2.2.2⟩⟩⟩⟩⟩⟩⟩⟩
theorem body_X0_worthOfRow {g r k : Int} {μ : Mem} {R : Mem → Option AV → Prop} (h : P_X0_worthOfRow g r k μ) (hR : R μ (some (kL (F_X0_worthOfRow g r k μ)))) : V_X0_worthOfRow R 0 [(0, kR g), (1, kI r), (2, kI k)] μ := by
  obtain ⟨hg, hc, hk, hp⟩ := h
  have key : ∀ i : Int, 0 ≤ i → i ≤ k → V_X0_worthOfRow R 5 [(0, kR g), (1, kI r), (2, kI k), (3, kL (sm (fun i => μ (g + 9) i * Fm μ g (μ (g + 4) i) r) i)), (5, kI i)] μ := by
    refine up_ind (P := fun i => V_X0_worthOfRow R 5 [(0, kR g), (1, kI r), (2, kI k), (3, kL (sm (fun i => μ (g + 9) i * Fm μ g (μ (g + 4) i) r) i)), (5, kI i)] μ) ?_ ?_
    · intro i i0 i1 ih
      have hi := hp i i0 i1
      rw [sm_s i0] at ih
      exact vc_X0_worthOfRow_5 hg ⟨rr (by omega), rr (by omega), fun c => absurd c (by omega), fun _ => ⟨by omega, by omega, by omega, hi.2, ih⟩⟩
    · exact vc_X0_worthOfRow_5 hg ⟨rr (by omega), rr (by omega), fun _ => hR, fun c => absurd (Int.le_refl _) c⟩
  exact vc_X0_worthOfRow_0 hg (key 0 (Int.le_refl _) hk.1)
theorem ct_X0_worthOfRow : Ct mX0_worthOfRow 0 0 0 0 (nrmS S_X0_worthOfRow) := by
  refine ct_vm (own := RX0) (by decide +kernel) rfl ?_ ?_
  · intro as μ Q hS
    unfold S_X0_worthOfRow at hS
    split at hS
    · exact Nat.le_of_ble_eq_true rfl
    · exact hS.elim
  · intro as μ R hS
    unfold S_X0_worthOfRow at hS
    split at hS
    · exact body_X0_worthOfRow hS.1 hS.2
    · exact hS.elim
def P_X0_noRowIsLess (g k : Int) (μ : Mem) : Prop := isG g ∧ (0 ≤ k ∧ k ≤ 4) ∧ (0 ≤ μ g 1 ∧ μ g 1 ≤ 24) ∧ (∀ i : Int, 0 ≤ i → i < k → 0 ≤ μ (g + 4) i ∧ μ (g + 4) i < 4) ∧ (∀ c r : Int, 0 ≤ c → c < 4 → 0 ≤ r → r < 24 → r32 (Fm μ g c r)) ∧ r64 (μ g 15) ∧ ∀ r : Int, 0 ≤ r → r < μ g 1 → r64 (F_X0_worthOfRow g r k μ)
def F_X0_noRowIsLess (g k : Int) (μ : Mem) : Int := if allV (fun r => decide (μ g 15 ≤ F_X0_worthOfRow g r k μ)) (μ g 1) = true then 1 else 0
def S_X0_noRowIsLess : S0t := fun as μ Q => match as with
  | [(2, x0), (0, x1)] => P_X0_noRowIsLess x0 x1 μ ∧ Q μ (some (kI (F_X0_noRowIsLess x0 x1 μ)))
  | _ => False
theorem mono_X0_noRowIsLess : Mono S_X0_noRowIsLess := by
  intro as μ Q Q' h hS
  unfold S_X0_noRowIsLess at hS ⊢
  split at hS
  · exact ⟨hS.1, h _ _ hS.2⟩
  · exact hS.elim
def iX0_noRowIsLess : Inf := (kX0_noRowIsLess, fTX0, pTX0, cTX0, lTX0, sTX0, [(164, 0, 2, 0, S_X0_worthOfRow)])
theorem ok_X0_noRowIsLess : infOK iX0_noRowIsLess mX0_noRowIsLess RX0 1 25 := ⟨kkX0_noRowIsLess, fTX0_ok, pTX0_ok _, cTX0_ok, lTX0_ok, sTX0_ok, c_cons ⟨mX0_worthOfRow, 0, 0, ct_X0_worthOfRow, mmX0_worthOfRow, vvX0_worthOfRow, lkX0_164, ⟨by decide, by decide⟩, ⟨_, _, rfl⟩, by decide, mono_X0_worthOfRow⟩ (c_nil)⟩
theorem mt_X0_noRowIsLess : mtOK [] RX0 1 25 := mt_nil
abbrev V_X0_noRowIsLess (R : Mem → Option AV → Prop) (pc : Nat) (lc : List (Nat × AV)) (μ : Mem) : Prop := VM mX0_noRowIsLess RX0 1 25 R pc lc [] μ
set_option maxRecDepth 20000 in
theorem vc_X0_noRowIsLess_0 {R : Mem → Option AV → Prop} {k g : Int} {μ : Mem} (hg : isG g) (H : V_X0_noRowIsLess R 2 [(0, kR g), (1, kI k), (2, kI 0)] μ) : V_X0_noRowIsLess R 0 [(0, kR g), (1, kI k)] μ := by
  refine vm_step2 mt_X0_noRowIsLess ok_X0_noRowIsLess [(2, [0, 1, 2])] 1000 ?_
  show V_X0_noRowIsLess R 2 [(0, kR g), (1, kI k), (2, kI 0)] μ
  exact H
set_option maxRecDepth 20000 in
theorem vc_X0_noRowIsLess_2 {R : Mem → Option AV → Prop} {k r g : Int} {μ : Mem} (hg : isG g) (H : r32 r ∧ r32 (μ g 1) ∧ (((μ g 1) ≤ r) → R μ (some (kI 1))) ∧ (¬ ((μ g 1) ≤ r) → P_X0_worthOfRow g r k μ ∧ r64 (F_X0_worthOfRow g r k μ) ∧ r64 (μ g 15) ∧ (((μ g 15) ≤ (F_X0_worthOfRow g r k μ)) → V_X0_noRowIsLess R 2 [(0, kR g), (1, kI k), (2, kI (r + 1))] μ) ∧ (¬ ((μ g 15) ≤ (F_X0_worthOfRow g r k μ)) → R μ (some (kI 0))))) : V_X0_noRowIsLess R 2 [(0, kR g), (1, kI k), (2, kI r)] μ := by
  refine vm_step2 mt_X0_noRowIsLess ok_X0_noRowIsLess [(2, [0, 1, 2])] 1000 ?_
  show isC g 0 ∧ (r32 r ∧ r32 (μ g 1)) ∧ (((μ g 1) ≤ r) → (0 ≤ (1 : Int) ∧ (1 : Int) ≤ 1) ∧ R μ (some (kI 1))) ∧ (¬ ((μ g 1) ≤ r) → isC g 0 ∧ P_X0_worthOfRow g r k μ ∧ isC g 0 ∧ (r64 (F_X0_worthOfRow g r k μ) ∧ r64 (μ g 15)) ∧ r32 (lcm3 (F_X0_worthOfRow g r k μ) (μ g 15)) ∧ ((0 ≤ lcm3 (F_X0_worthOfRow g r k μ) (μ g 15)) → V_X0_noRowIsLess R 2 [(0, kR g), (1, kI k), (2, kI (r + 1))] μ) ∧ (¬ (0 ≤ lcm3 (F_X0_worthOfRow g r k μ) (μ g 15)) → (0 ≤ (0 : Int) ∧ (0 : Int) ≤ 1) ∧ R μ (some (kI 0))))
  exact ⟨isG_C hg, ⟨⟨H.1, H.2.1⟩, fun hc2 => ⟨⟨by omega, by omega⟩, (H.2.2.1 hc2)⟩, fun hc2 => ⟨isG_C hg, (H.2.2.2 hc2).1, ⟨isG_C hg, ⟨⟨(H.2.2.2 hc2).2.1, (H.2.2.2 hc2).2.2.1⟩, lcm3_r _ _, fun hc1 => ((H.2.2.2 hc2).2.2.2.1 (lcm_ge.mp hc1)), fun hc1 => ⟨⟨by omega, by omega⟩, ((H.2.2.2 hc2).2.2.2.2 (fun q => hc1 (lcm_ge.mpr q)))⟩⟩⟩⟩⟩⟩
theorem body_X0_noRowIsLess {g k : Int} {μ : Mem} {R : Mem → Option AV → Prop} (h : P_X0_noRowIsLess g k μ) (hR : R μ (some (kI (F_X0_noRowIsLess g k μ)))) : V_X0_noRowIsLess R 0 [(0, kR g), (1, kI k)] μ := by
  obtain ⟨hg, hk, hn, hp, hf, h15, hw⟩ := h
  unfold F_X0_noRowIsLess at hR
  have key : ∀ r : Int, 0 ≤ r → r ≤ μ g 1 → (∀ j : Int, 0 ≤ j → j < r → μ g 15 ≤ F_X0_worthOfRow g j k μ) → V_X0_noRowIsLess R 2 [(0, kR g), (1, kI k), (2, kI r)] μ := by
    refine up_ind (P := fun r => (∀ j : Int, 0 ≤ j → j < r → μ g 15 ≤ F_X0_worthOfRow g j k μ) → V_X0_noRowIsLess R 2 [(0, kR g), (1, kI k), (2, kI r)] μ) ?_ ?_
    · intro r r0 r1 ih hq
      refine vc_X0_noRowIsLess_2 hg ⟨rr (by omega), rr (by omega), fun c => absurd c (by omega), fun _ => ⟨⟨hg, by omega, hk, fun i i0 i1 => ⟨hp i i0 i1, hf _ _ (hp i i0 i1).1 (hp i i0 i1).2 r0 (by omega)⟩⟩, hw r r0 r1, h15, fun c => ih (fun j j0 j1 => ?_), fun c => ?_⟩⟩
      · by_cases e : j = r
        · subst e; exact c
        · exact hq j j0 (by omega)
      · rw [if_neg (fun q => c (of_decide_eq_true ((allV_ok hn.1).mp q r r0 r1)))] at hR
        exact hR
    · intro hq
      refine vc_X0_noRowIsLess_2 hg ⟨rr (by omega), rr (by omega), fun _ => ?_, fun c => absurd (Int.le_refl _) c⟩
      rw [if_pos ((allV_ok hn.1).mpr fun i i0 i1 => decide_eq_true (hq i i0 i1))] at hR
      exact hR
  exact vc_X0_noRowIsLess_0 hg (key 0 (Int.le_refl _) hn.1 (fun j j0 j1 => absurd j0 (by omega)))
theorem ct_X0_noRowIsLess : Ct mX0_noRowIsLess 1 25 0 0 (nrmS S_X0_noRowIsLess) := by
  refine ct_vm (own := RX0) (by decide +kernel) rfl ?_ ?_
  · intro as μ Q hS
    unfold S_X0_noRowIsLess at hS
    split at hS
    · exact Nat.le_of_ble_eq_true rfl
    · exact hS.elim
  · intro as μ R hS
    unfold S_X0_noRowIsLess at hS
    split at hS
    · exact body_X0_noRowIsLess hS.1 hS.2
    · exact hS.elim
