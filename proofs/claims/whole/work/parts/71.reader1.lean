def P_X5_isLetter (s : Int) (_ : Mem) : Prop := r32 s
def F_X5_isLetter (s : Int) (_ : Mem) : Int := if isLet s = true then 1 else 0
def S_X5_isLetter : S0t := fun as μ Q => match as with
  | [(0, x0)] => P_X5_isLetter x0 μ ∧ Q μ (some (kI (F_X5_isLetter x0 μ)))
  | _ => False
theorem mono_X5_isLetter : Mono S_X5_isLetter := by
  intro as μ Q Q' h hS
  unfold S_X5_isLetter at hS ⊢
  split at hS
  · exact ⟨hS.1, h _ _ hS.2⟩
  · exact hS.elim
def iX5_isLetter : Inf := (kX5_isLetter, fTX5, pTX5, cTX5, lTX5, sTX5, [])
theorem ok_X5_isLetter : infOK iX5_isLetter mX5_isLetter RX5 0 0 := ⟨kkX5_isLetter, fTX5_ok, pTX5_ok _, cTX5_ok, lTX5_ok, sTX5_ok, c_nil⟩
theorem mt_X5_isLetter : mtOK [] RX5 0 0 := mt_nil
abbrev V_X5_isLetter (R : Mem → Option AV → Prop) (pc : Nat) (lc : List (Nat × AV)) (μ : Mem) : Prop := VM mX5_isLetter RX5 0 0 R pc lc [] μ
set_option maxRecDepth 20000 in
theorem vc_X5_isLetter_0 {R : Mem → Option AV → Prop} {s : Int} {μ : Mem} (H : r32 s ∧ ((s < (97 : Int)) → R μ (some (kI 0))) ∧ (¬ (s < (97 : Int)) → r32 s ∧ (((122 : Int) < s) → R μ (some (kI 0))) ∧ (¬ ((122 : Int) < s) → R μ (some (kI 1))))) : V_X5_isLetter R 0 [(0, kI s)] μ := by
  refine vm_step2 mt_X5_isLetter ok_X5_isLetter [] 1000 ?_
  show (r32 s ∧ r32 (97 : Int)) ∧ ((s < (97 : Int)) → (0 ≤ (0 : Int) ∧ (0 : Int) ≤ 1) ∧ R μ (some (kI 0))) ∧ (¬ (s < (97 : Int)) → (r32 s ∧ r32 (122 : Int)) ∧ (((122 : Int) < s) → (0 ≤ (0 : Int) ∧ (0 : Int) ≤ 1) ∧ R μ (some (kI 0))) ∧ (¬ ((122 : Int) < s) → (0 ≤ (1 : Int) ∧ (1 : Int) ≤ 1) ∧ R μ (some (kI 1))))
  exact ⟨⟨H.1, by unfold r32; omega⟩, fun hc2 => ⟨⟨by omega, by omega⟩, (H.2.1 hc2)⟩, fun hc2 => ⟨⟨(H.2.2 hc2).1, by unfold r32; omega⟩, fun hc1 => ⟨⟨by omega, by omega⟩, ((H.2.2 hc2).2.1 hc1)⟩, fun hc1 => ⟨⟨by omega, by omega⟩, ((H.2.2 hc2).2.2 hc1)⟩⟩⟩
theorem body_X5_isLetter {s : Int} {μ : Mem} {R : Mem → Option AV → Prop} (h : P_X5_isLetter s μ) (hR : R μ (some (kI (F_X5_isLetter s μ)))) : V_X5_isLetter R 0 [(0, kI s)] μ := by
  unfold F_X5_isLetter isLet at hR
  refine vc_X5_isLetter_0 ⟨h, fun c => ?_, fun c => ⟨h, fun c2 => ?_, fun c2 => ?_⟩⟩
  · rw [decide_eq_false (by omega)] at hR; exact hR
  · rw [decide_eq_false (by omega)] at hR; exact hR
  · rw [decide_eq_true (by omega)] at hR; exact hR
theorem ct_X5_isLetter : Ct mX5_isLetter 0 0 0 0 (nrmS S_X5_isLetter) := by
  refine ct_vm (own := RX5) (by decide +kernel) rfl ?_ ?_
  · intro as μ Q hS
    unfold S_X5_isLetter at hS
    split at hS
    · exact Nat.le_of_ble_eq_true rfl
    · exact hS.elim
  · intro as μ R hS
    unfold S_X5_isLetter at hS
    split at hS
    · exact body_X5_isLetter hS.1 hS.2
    · exact hS.elim
def P_X5_isDigit (s : Int) (_ : Mem) : Prop := r32 s
def F_X5_isDigit (s : Int) (_ : Mem) : Int := if isDig s = true then 1 else 0
def S_X5_isDigit : S0t := fun as μ Q => match as with
  | [(0, x0)] => P_X5_isDigit x0 μ ∧ Q μ (some (kI (F_X5_isDigit x0 μ)))
  | _ => False
theorem mono_X5_isDigit : Mono S_X5_isDigit := by
  intro as μ Q Q' h hS
  unfold S_X5_isDigit at hS ⊢
  split at hS
  · exact ⟨hS.1, h _ _ hS.2⟩
  · exact hS.elim
def iX5_isDigit : Inf := (kX5_isDigit, fTX5, pTX5, cTX5, lTX5, sTX5, [])
theorem ok_X5_isDigit : infOK iX5_isDigit mX5_isDigit RX5 0 0 := ⟨kkX5_isDigit, fTX5_ok, pTX5_ok _, cTX5_ok, lTX5_ok, sTX5_ok, c_nil⟩
theorem mt_X5_isDigit : mtOK [] RX5 0 0 := mt_nil
abbrev V_X5_isDigit (R : Mem → Option AV → Prop) (pc : Nat) (lc : List (Nat × AV)) (μ : Mem) : Prop := VM mX5_isDigit RX5 0 0 R pc lc [] μ
set_option maxRecDepth 20000 in
theorem vc_X5_isDigit_0 {R : Mem → Option AV → Prop} {s : Int} {μ : Mem} (H : r32 s ∧ ((s < (48 : Int)) → R μ (some (kI 0))) ∧ (¬ (s < (48 : Int)) → r32 s ∧ (((57 : Int) < s) → R μ (some (kI 0))) ∧ (¬ ((57 : Int) < s) → R μ (some (kI 1))))) : V_X5_isDigit R 0 [(0, kI s)] μ := by
  refine vm_step2 mt_X5_isDigit ok_X5_isDigit [] 1000 ?_
  show (r32 s ∧ r32 (48 : Int)) ∧ ((s < (48 : Int)) → (0 ≤ (0 : Int) ∧ (0 : Int) ≤ 1) ∧ R μ (some (kI 0))) ∧ (¬ (s < (48 : Int)) → (r32 s ∧ r32 (57 : Int)) ∧ (((57 : Int) < s) → (0 ≤ (0 : Int) ∧ (0 : Int) ≤ 1) ∧ R μ (some (kI 0))) ∧ (¬ ((57 : Int) < s) → (0 ≤ (1 : Int) ∧ (1 : Int) ≤ 1) ∧ R μ (some (kI 1))))
  exact ⟨⟨H.1, by unfold r32; omega⟩, fun hc2 => ⟨⟨by omega, by omega⟩, (H.2.1 hc2)⟩, fun hc2 => ⟨⟨(H.2.2 hc2).1, by unfold r32; omega⟩, fun hc1 => ⟨⟨by omega, by omega⟩, ((H.2.2 hc2).2.1 hc1)⟩, fun hc1 => ⟨⟨by omega, by omega⟩, ((H.2.2 hc2).2.2 hc1)⟩⟩⟩
theorem body_X5_isDigit {s : Int} {μ : Mem} {R : Mem → Option AV → Prop} (h : P_X5_isDigit s μ) (hR : R μ (some (kI (F_X5_isDigit s μ)))) : V_X5_isDigit R 0 [(0, kI s)] μ := by
  unfold F_X5_isDigit isDig at hR
  refine vc_X5_isDigit_0 ⟨h, fun c => ?_, fun c => ⟨h, fun c2 => ?_, fun c2 => ?_⟩⟩
  · rw [decide_eq_false (by omega)] at hR; exact hR
  · rw [decide_eq_false (by omega)] at hR; exact hR
  · rw [decide_eq_true (by omega)] at hR; exact hR
theorem ct_X5_isDigit : Ct mX5_isDigit 0 0 0 0 (nrmS S_X5_isDigit) := by
  refine ct_vm (own := RX5) (by decide +kernel) rfl ?_ ?_
  · intro as μ Q hS
    unfold S_X5_isDigit at hS
    split at hS
    · exact Nat.le_of_ble_eq_true rfl
    · exact hS.elim
  · intro as μ R hS
    unfold S_X5_isDigit at hS
    split at hS
    · exact body_X5_isDigit hS.1 hS.2
    · exact hS.elim
/-- the bytes of the tape -/
def TapeR (μ : Mem) : Prop := ∀ j : Int, 0 ≤ j → j < 500 → -128 ≤ μ 2 j ∧ μ 2 j ≤ 127
def P_X5_endOfToken (z p n : Int) (μ : Mem) : Prop := z = 2 ∧ (0 ≤ p ∧ p < n) ∧ n ≤ 500 ∧ TapeR μ
def F_X5_endOfToken (_ p n : Int) (μ : Mem) : Int := endT (μ 2) p n
def S_X5_endOfToken : S0t := fun as μ Q => match as with
  | [(2, x0), (0, x1), (0, x2)] => P_X5_endOfToken x0 x1 x2 μ ∧ Q μ (some (kI (F_X5_endOfToken x0 x1 x2 μ)))
  | _ => False
theorem mono_X5_endOfToken : Mono S_X5_endOfToken := by
  intro as μ Q Q' h hS
  unfold S_X5_endOfToken at hS ⊢
  split at hS
  · exact ⟨hS.1, h _ _ hS.2⟩
  · exact hS.elim
def iX5_endOfToken : Inf := (kX5_endOfToken, fTX5, pTX5, cTX5, lTX5, sTX5, [(67, 1, 1, 0, S_X5_isLetter), (71, 1, 1, 0, S_X5_isDigit)])
theorem ok_X5_endOfToken : infOK iX5_endOfToken mX5_endOfToken RX5 1 20 := ⟨kkX5_endOfToken, fTX5_ok, pTX5_ok _, cTX5_ok, lTX5_ok, sTX5_ok, c_cons ⟨mX5_isLetter, 0, 0, ct_X5_isLetter, mmX5_isLetter, stX5_isLetter, lkX5_67, ⟨by decide, by decide⟩, mono_X5_isLetter⟩ (c_cons ⟨mX5_isDigit, 0, 0, ct_X5_isDigit, mmX5_isDigit, stX5_isDigit, lkX5_71, ⟨by decide, by decide⟩, mono_X5_isDigit⟩ (c_nil))⟩
theorem mt_X5_endOfToken : mtOK [] RX5 1 20 := mt_nil
abbrev V_X5_endOfToken (R : Mem → Option AV → Prop) (pc : Nat) (lc : List (Nat × AV)) (μ : Mem) : Prop := VM mX5_endOfToken RX5 1 20 R pc lc [] μ
set_option maxRecDepth 20000 in
theorem vc_X5_endOfToken_0 {R : Mem → Option AV → Prop} {p n : Int} {μ : Mem} (H : (0 ≤ p ∧ p < 500) ∧ P_X5_isLetter (μ 2 p) μ ∧ r32 (F_X5_isLetter (μ 2 p) μ) ∧ (((F_X5_isLetter (μ 2 p) μ) = 0) → (0 ≤ p ∧ p < 500) ∧ P_X5_isDigit (μ 2 p) μ ∧ r32 (F_X5_isDigit (μ 2 p) μ) ∧ (((F_X5_isDigit (μ 2 p) μ) = 0) → R μ (some (kI (p + 1)))) ∧ (¬ ((F_X5_isDigit (μ 2 p) μ) = 0) → V_X5_endOfToken R 42 [(0, kR 2), (2, kI n), (3, kI (p + 1))] μ)) ∧ (¬ ((F_X5_isLetter (μ 2 p) μ) = 0) → V_X5_endOfToken R 13 [(0, kR 2), (2, kI n), (3, kI (p + 1))] μ)) : V_X5_endOfToken R 0 [(0, kR 2), (1, kI p), (2, kI n)] μ := by
  refine vm_step2 mt_X5_endOfToken ok_X5_endOfToken [(13, [0, 2, 3]), (42, [0, 2, 3])] 1000 ?_
  show (inA 2 2 p ∨ inA 2 3 p) ∧ P_X5_isLetter (μ 2 p) μ ∧ r32 (F_X5_isLetter (μ 2 p) μ) ∧ (((F_X5_isLetter (μ 2 p) μ) = 0) → (inA 2 2 p ∨ inA 2 3 p) ∧ P_X5_isDigit (μ 2 p) μ ∧ r32 (F_X5_isDigit (μ 2 p) μ) ∧ (((F_X5_isDigit (μ 2 p) μ) = 0) → R μ (some (kI (p + 1)))) ∧ (¬ ((F_X5_isDigit (μ 2 p) μ) = 0) → V_X5_endOfToken R 42 [(0, kR 2), (2, kI n), (3, kI (p + 1))] μ)) ∧ (¬ ((F_X5_isLetter (μ 2 p) μ) = 0) → V_X5_endOfToken R 13 [(0, kR 2), (2, kI n), (3, kI (p + 1))] μ)
  exact ⟨Or.inl (isArr.in a_2 H.1.1 H.1.2), ⟨H.2.1, ⟨H.2.2.1, fun hc2 => ⟨Or.inl (isArr.in a_2 (H.2.2.2.1 hc2).1.1 (H.2.2.2.1 hc2).1.2), ⟨(H.2.2.2.1 hc2).2.1, ⟨(H.2.2.2.1 hc2).2.2.1, fun hc1 => ((H.2.2.2.1 hc2).2.2.2.1 hc1), fun hc1 => ((H.2.2.2.1 hc2).2.2.2.2 hc1)⟩⟩⟩, fun hc2 => (H.2.2.2.2 hc2)⟩⟩⟩
set_option maxRecDepth 20000 in
theorem vc_X5_endOfToken_13 {R : Mem → Option AV → Prop} {n q : Int} {μ : Mem} (H : r32 q ∧ r32 n ∧ ((n ≤ q) → R μ (some (kI q))) ∧ (¬ (n ≤ q) → (0 ≤ q ∧ q < 500) ∧ P_X5_isLetter (μ 2 q) μ ∧ r32 (F_X5_isLetter (μ 2 q) μ) ∧ (((F_X5_isLetter (μ 2 q) μ) = 0) → R μ (some (kI q))) ∧ (¬ ((F_X5_isLetter (μ 2 q) μ) = 0) → V_X5_endOfToken R 13 [(0, kR 2), (2, kI n), (3, kI (q + 1))] μ))) : V_X5_endOfToken R 13 [(0, kR 2), (2, kI n), (3, kI q)] μ := by
  refine vm_step2 mt_X5_endOfToken ok_X5_endOfToken [(13, [0, 2, 3]), (42, [0, 2, 3])] 1000 ?_
  show (r32 q ∧ r32 n) ∧ ((n ≤ q) → R μ (some (kI q))) ∧ (¬ (n ≤ q) → (inA 2 2 q ∨ inA 2 3 q) ∧ P_X5_isLetter (μ 2 q) μ ∧ r32 (F_X5_isLetter (μ 2 q) μ) ∧ (((F_X5_isLetter (μ 2 q) μ) = 0) → R μ (some (kI q))) ∧ (¬ ((F_X5_isLetter (μ 2 q) μ) = 0) → V_X5_endOfToken R 13 [(0, kR 2), (2, kI n), (3, kI (q + 1))] μ))
  exact ⟨⟨H.1, H.2.1⟩, fun hc4 => (H.2.2.1 hc4), fun hc4 => ⟨Or.inl (isArr.in a_2 (H.2.2.2 hc4).1.1 (H.2.2.2 hc4).1.2), ⟨(H.2.2.2 hc4).2.1, ⟨(H.2.2.2 hc4).2.2.1, fun hc3 => ((H.2.2.2 hc4).2.2.2.1 hc3), fun hc3 => ((H.2.2.2 hc4).2.2.2.2 hc3)⟩⟩⟩⟩
set_option maxRecDepth 20000 in
theorem vc_X5_endOfToken_42 {R : Mem → Option AV → Prop} {n q : Int} {μ : Mem} (H : r32 q ∧ r32 n ∧ ((n ≤ q) → R μ (some (kI q))) ∧ (¬ (n ≤ q) → (0 ≤ q ∧ q < 500) ∧ P_X5_isDigit (μ 2 q) μ ∧ r32 (F_X5_isDigit (μ 2 q) μ) ∧ (((F_X5_isDigit (μ 2 q) μ) = 0) → R μ (some (kI q))) ∧ (¬ ((F_X5_isDigit (μ 2 q) μ) = 0) → V_X5_endOfToken R 42 [(0, kR 2), (2, kI n), (3, kI (q + 1))] μ))) : V_X5_endOfToken R 42 [(0, kR 2), (2, kI n), (3, kI q)] μ := by
  refine vm_step2 mt_X5_endOfToken ok_X5_endOfToken [(13, [0, 2, 3]), (42, [0, 2, 3])] 1000 ?_
  show (r32 q ∧ r32 n) ∧ ((n ≤ q) → R μ (some (kI q))) ∧ (¬ (n ≤ q) → (inA 2 2 q ∨ inA 2 3 q) ∧ P_X5_isDigit (μ 2 q) μ ∧ r32 (F_X5_isDigit (μ 2 q) μ) ∧ (((F_X5_isDigit (μ 2 q) μ) = 0) → R μ (some (kI q))) ∧ (¬ ((F_X5_isDigit (μ 2 q) μ) = 0) → V_X5_endOfToken R 42 [(0, kR 2), (2, kI n), (3, kI (q + 1))] μ))
  exact ⟨⟨H.1, H.2.1⟩, fun hc6 => (H.2.2.1 hc6), fun hc6 => ⟨Or.inl (isArr.in a_2 (H.2.2.2 hc6).1.1 (H.2.2.2 hc6).1.2), ⟨(H.2.2.2 hc6).2.1, ⟨(H.2.2.2 hc6).2.2.1, fun hc5 => ((H.2.2.2 hc6).2.2.2.1 hc5), fun hc5 => ((H.2.2.2 hc6).2.2.2.2 hc5)⟩⟩⟩⟩
theorem body_X5_endOfToken {z p n : Int} {μ : Mem} {R : Mem → Option AV → Prop} (h : P_X5_endOfToken z p n μ) (hR : R μ (some (kI (F_X5_endOfToken z p n μ)))) : V_X5_endOfToken R 0 [(0, kR z), (1, kI p), (2, kI n)] μ := by
  obtain ⟨rfl, hp, hn, ht⟩ := h
  unfold F_X5_endOfToken endT at hR
  have r : ∀ i : Int, 0 ≤ i → i < 500 → r32 (μ 2 i) := fun i i0 i1 => by
    have := ht i i0 i1
    exact rr (by omega)
  have kl : ∀ q : Int, p + 1 ≤ q → q ≤ n → runE (fun i => isLet (μ 2 i)) (p + 1) n = runE (fun i => isLet (μ 2 i)) q n → isLet (μ 2 p) = true → V_X5_endOfToken R 13 [(0, kR 2), (2, kI n), (3, kI q)] μ := by
    refine up_ind (P := fun q => runE (fun i => isLet (μ 2 i)) (p + 1) n = runE (fun i => isLet (μ 2 i)) q n → isLet (μ 2 p) = true → V_X5_endOfToken R 13 [(0, kR 2), (2, kI n), (3, kI q)] μ) ?_ ?_
    · intro q q0 q1 ih he hl
      refine vc_X5_endOfToken_13 ⟨rr (by omega), rr (by omega), fun c => absurd c (by omega), fun _ => ⟨by omega, r q (by omega) (by omega), ?_⟩⟩
      unfold F_X5_isLetter
      by_cases c : isLet (μ 2 q) = true
      · rw [if_pos c]
        exact ⟨rr (by omega), fun c => absurd c (by omega), fun _ => ih (by rw [he, runE_s q1 c]) hl⟩
      · rw [if_neg c]
        rw [if_pos hl, he, runE_e (q := fun i => isLet (μ 2 i)) (fun q2 => c q2.2)] at hR
        exact ⟨rr (by omega), fun _ => hR, fun c => absurd rfl c⟩
    · intro he hl
      rw [if_pos hl, he, runE_e (fun q2 => by omega)] at hR
      exact vc_X5_endOfToken_13 ⟨rr (by omega), rr (by omega), fun _ => hR, fun c => absurd (Int.le_refl _) c⟩
  have kd : ∀ q : Int, p + 1 ≤ q → q ≤ n → runE (fun i => isDig (μ 2 i)) (p + 1) n = runE (fun i => isDig (μ 2 i)) q n → ¬ isLet (μ 2 p) = true → isDig (μ 2 p) = true → V_X5_endOfToken R 42 [(0, kR 2), (2, kI n), (3, kI q)] μ := by
    refine up_ind (P := fun q => runE (fun i => isDig (μ 2 i)) (p + 1) n = runE (fun i => isDig (μ 2 i)) q n → ¬ isLet (μ 2 p) = true → isDig (μ 2 p) = true → V_X5_endOfToken R 42 [(0, kR 2), (2, kI n), (3, kI q)] μ) ?_ ?_
    · intro q q0 q1 ih he hl hd
      refine vc_X5_endOfToken_42 ⟨rr (by omega), rr (by omega), fun c => absurd c (by omega), fun _ => ⟨by omega, r q (by omega) (by omega), ?_⟩⟩
      unfold F_X5_isDigit
      by_cases c : isDig (μ 2 q) = true
      · rw [if_pos c]
        exact ⟨rr (by omega), fun c => absurd c (by omega), fun _ => ih (by rw [he, runE_s q1 c]) hl hd⟩
      · rw [if_neg c]
        rw [if_neg hl, if_pos hd, he, runE_e (q := fun i => isDig (μ 2 i)) (fun q2 => c q2.2)] at hR
        exact ⟨rr (by omega), fun _ => hR, fun c => absurd rfl c⟩
    · intro he hl hd
      rw [if_neg hl, if_pos hd, he, runE_e (fun q2 => by omega)] at hR
      exact vc_X5_endOfToken_42 ⟨rr (by omega), rr (by omega), fun _ => hR, fun c => absurd (Int.le_refl _) c⟩
  have rp := r p hp.1 (by omega)
  refine vc_X5_endOfToken_0 ⟨by omega, rp, ?_⟩
  unfold F_X5_isLetter F_X5_isDigit
  by_cases cl : isLet (μ 2 p) = true
  · rw [if_pos cl]
    exact ⟨rr (by omega), fun c => absurd c (by omega), fun _ => kl (p + 1) (Int.le_refl _) (by omega) rfl cl⟩
  · rw [if_neg cl]
    refine ⟨rr (by omega), fun _ => ⟨by omega, rp, ?_⟩, fun c => absurd rfl c⟩
    by_cases cd : isDig (μ 2 p) = true
    · rw [if_pos cd]
      exact ⟨rr (by omega), fun c => absurd c (by omega), fun _ => kd (p + 1) (Int.le_refl _) (by omega) rfl cl cd⟩
    · rw [if_neg cd]
      rw [if_neg cl, if_neg cd] at hR
      exact ⟨rr (by omega), fun _ => hR, fun c => absurd rfl c⟩
theorem ct_X5_endOfToken : Ct mX5_endOfToken 1 20 0 0 (nrmS S_X5_endOfToken) := by
  refine ct_vm (own := RX5) (by decide +kernel) rfl ?_ ?_
  · intro as μ Q hS
    unfold S_X5_endOfToken at hS
    split at hS
    · exact Nat.le_of_ble_eq_true rfl
    · exact hS.elim
  · intro as μ R hS
    unfold S_X5_endOfToken at hS
    split at hS
    · exact body_X5_endOfToken hS.1 hS.2
    · exact hS.elim
def P_X5_says (z p q w : Int) (μ : Mem) : Prop := z = 2 ∧ (0 ≤ p ∧ p ≤ q) ∧ q ≤ 500 ∧ TapeR μ ∧ (1 ≤ w ∧ w < 8)
def F_X5_says (_ p q w : Int) (μ : Mem) : Int := if sayT (μ 2) p q w = true then 1 else 0
theorem SW_tab : ∀ w : Nat, w < 8 → 1 ≤ w → (SL w).2.2.1 = 6 ∧ SN w ≤ 6 ∧ ∀ i : Nat, i < 7 → -128 ≤ SV w i ∧ SV w i ≤ 127 := by decide +kernel
def S_X5_says : S0t := fun as μ Q => match as with
  | [(2, x0), (0, x1), (0, x2), (3, x3)] => P_X5_says x0 x1 x2 x3 μ ∧ Q μ (some (kI (F_X5_says x0 x1 x2 x3 μ)))
  | _ => False
theorem mono_X5_says : Mono S_X5_says := by
  intro as μ Q Q' h hS
  unfold S_X5_says at hS ⊢
  split at hS
  · exact ⟨hS.1, h _ _ hS.2⟩
  · exact hS.elim
def iX5_says : Inf := (kX5_says, fTX5, pTX5, cTX5, lTX5, sTX5, [])
theorem ok_X5_says : infOK iX5_says mX5_says RX5 0 0 := ⟨kkX5_says, fTX5_ok, pTX5_ok _, cTX5_ok, lTX5_ok, sTX5_ok, c_nil⟩
theorem mt_X5_says : mtOK [] RX5 0 0 := mt_nil
abbrev V_X5_says (R : Mem → Option AV → Prop) (pc : Nat) (lc : List (Nat × AV)) (μ : Mem) : Prop := VM mX5_says RX5 0 0 R pc lc [] μ
set_option maxRecDepth 20000 in
theorem vc_X5_says_0 {R : Mem → Option AV → Prop} {p q w : Int} {μ : Mem} (H : (0 ≤ w ∧ w < 8) ∧ r32 (q - p) ∧ r32 ((SN w.toNat : Int)) ∧ (((q - p) = ((SN w.toNat : Int))) → V_X5_says R 13 [(0, kR 2), (1, kI p), (3, kS w), (4, kI 0)] μ) ∧ (¬ ((q - p) = ((SN w.toNat : Int))) → R μ (some (kI 0)))) : V_X5_says R 0 [(0, kR 2), (1, kI p), (2, kI q), (3, kS w)] μ := by
  refine vm_step2 mt_X5_says ok_X5_says [(13, [0, 1, 3, 4])] 1000 ?_
  show (0 ≤ w ∧ w < 8) ∧ (r32 (q - p) ∧ r32 ((SN w.toNat : Int))) ∧ (((q - p) = ((SN w.toNat : Int))) → V_X5_says R 13 [(0, kR 2), (1, kI p), (3, kS w), (4, kI 0)] μ) ∧ (¬ ((q - p) = ((SN w.toNat : Int))) → (0 ≤ (0 : Int) ∧ (0 : Int) ≤ 1) ∧ R μ (some (kI 0)))
  exact ⟨H.1, ⟨⟨H.2.1, H.2.2.1⟩, fun hc1 => (H.2.2.2.1 hc1), fun hc1 => ⟨⟨by omega, by omega⟩, (H.2.2.2.2 hc1)⟩⟩⟩
set_option maxRecDepth 20000 in
theorem vc_X5_says_13 {R : Mem → Option AV → Prop} {p w i : Int} {μ : Mem} (H : (0 ≤ w ∧ w < 8) ∧ r32 i ∧ r32 ((SN w.toNat : Int)) ∧ ((((SN w.toNat : Int)) ≤ i) → R μ (some (kI 1))) ∧ (¬ (((SN w.toNat : Int)) ≤ i) → (0 ≤ (p + i) ∧ (p + i) < 500) ∧ atS w 6 i ∧ r32 (μ 2 (p + i)) ∧ r32 (SV w.toNat i) ∧ (((μ 2 (p + i)) = (SV w.toNat i)) → V_X5_says R 13 [(0, kR 2), (1, kI p), (3, kS w), (4, kI (i + 1))] μ) ∧ (¬ ((μ 2 (p + i)) = (SV w.toNat i)) → R μ (some (kI 0))))) : V_X5_says R 13 [(0, kR 2), (1, kI p), (3, kS w), (4, kI i)] μ := by
  refine vm_step2 mt_X5_says ok_X5_says [(13, [0, 1, 3, 4])] 1000 ?_
  show (0 ≤ w ∧ w < 8) ∧ (r32 i ∧ r32 ((SN w.toNat : Int))) ∧ ((((SN w.toNat : Int)) ≤ i) → (0 ≤ (1 : Int) ∧ (1 : Int) ≤ 1) ∧ R μ (some (kI 1))) ∧ (¬ (((SN w.toNat : Int)) ≤ i) → (inA 2 2 (p + i) ∨ inA 2 3 (p + i)) ∧ atS w 6 i ∧ (r32 (μ 2 (p + i)) ∧ r32 (SV w.toNat i)) ∧ (((μ 2 (p + i)) = (SV w.toNat i)) → V_X5_says R 13 [(0, kR 2), (1, kI p), (3, kS w), (4, kI (i + 1))] μ) ∧ (¬ ((μ 2 (p + i)) = (SV w.toNat i)) → (0 ≤ (0 : Int) ∧ (0 : Int) ≤ 1) ∧ R μ (some (kI 0))))
  exact ⟨H.1, ⟨⟨H.2.1, H.2.2.1⟩, fun hc3 => ⟨⟨by omega, by omega⟩, (H.2.2.2.1 hc3)⟩, fun hc3 => ⟨Or.inl (isArr.in a_2 (H.2.2.2.2 hc3).1.1 (H.2.2.2.2 hc3).1.2), ⟨(H.2.2.2.2 hc3).2.1, ⟨⟨(H.2.2.2.2 hc3).2.2.1, (H.2.2.2.2 hc3).2.2.2.1⟩, fun hc2 => ((H.2.2.2.2 hc3).2.2.2.2.1 hc2), fun hc2 => ⟨⟨by omega, by omega⟩, ((H.2.2.2.2 hc3).2.2.2.2.2 hc2)⟩⟩⟩⟩⟩⟩
theorem body_X5_says {z p q w : Int} {μ : Mem} {R : Mem → Option AV → Prop} (h : P_X5_says z p q w μ) (hR : R μ (some (kI (F_X5_says z p q w μ)))) : V_X5_says R 0 [(0, kR z), (1, kI p), (2, kI q), (3, kS w)] μ := by
  obtain ⟨rfl, hp, hq, ht, hw⟩ := h
  unfold F_X5_says sayT at hR
  obtain ⟨w1, w2, w3⟩ := SW_tab w.toNat (by omega) (by omega)
  refine vc_X5_says_0 ⟨by omega, rr (by omega), rr (by omega), fun c => ?_, fun c => ?_⟩
  · rw [decide_eq_true c, Bool.true_and] at hR
    have key : ∀ i : Int, 0 ≤ i → i ≤ (SN w.toNat : Int) → (∀ j : Int, 0 ≤ j → j < i → μ 2 (p + j) = SV w.toNat j) → V_X5_says R 13 [(0, kR 2), (1, kI p), (3, kS w), (4, kI i)] μ := by
      refine up_ind (P := fun i => (∀ j : Int, 0 ≤ j → j < i → μ 2 (p + j) = SV w.toNat j) → V_X5_says R 13 [(0, kR 2), (1, kI p), (3, kS w), (4, kI i)] μ) ?_ ?_
      · intro i i0 i1 ih hj
        have hb := ht (p + i) (by omega) (by omega)
        have hv := w3 i.toNat (by omega)
        rw [Int.toNat_of_nonneg i0] at hv
        have es : SV w.toNat i = SV w.toNat i := rfl
        refine vc_X5_says_13 ⟨by omega, rr (by omega), rr (by omega), fun c => absurd c (by omega), fun _ => ⟨by omega, ⟨by omega, w1, i0, i1⟩, rr (by omega), ?_, fun c => ih (fun j j0 j1 => ?_), fun c => ?_⟩⟩
        · exact rr (by omega)
        · by_cases e : j = i
          · rw [e]; exact c
          · exact hj j j0 (by omega)
        · rw [if_neg (fun q => c (of_decide_eq_true ((allV_ok (by omega)).mp q i i0 i1)))] at hR
          exact hR
      · intro hj
        rw [if_pos ((allV_ok (by omega)).mpr fun i i0 i1 => decide_eq_true (hj i i0 i1))] at hR
        exact vc_X5_says_13 ⟨by omega, rr (by omega), rr (by omega), fun _ => hR, fun c => absurd (Int.le_refl _) c⟩
    exact key 0 (Int.le_refl _) (by omega) (fun j j0 j1 => absurd j0 (by omega))
  · rw [decide_eq_false c, Bool.false_and] at hR
    exact hR
theorem ct_X5_says : Ct mX5_says 0 0 0 0 (nrmS S_X5_says) := by
  refine ct_vm (own := RX5) (by decide +kernel) rfl ?_ ?_
  · intro as μ Q hS
    unfold S_X5_says at hS
    split at hS
    · exact Nat.le_of_ble_eq_true rfl
    · exact hS.elim
  · intro as μ R hS
    unfold S_X5_says at hS
    split at hS
    · exact body_X5_says hS.1 hS.2
    · exact hS.elim
def P_X5_kindOf (z p q : Int) (μ : Mem) : Prop := z = 2 ∧ (0 ≤ p ∧ p < q) ∧ q ≤ 500 ∧ TapeR μ
def F_X5_kindOf (_ p q : Int) (μ : Mem) : Int := kindT (μ 2) p q
def S_X5_kindOf : S0t := fun as μ Q => match as with
  | [(2, x0), (0, x1), (0, x2)] => P_X5_kindOf x0 x1 x2 μ ∧ Q μ (some (kI (F_X5_kindOf x0 x1 x2 μ)))
  | _ => False
theorem mono_X5_kindOf : Mono S_X5_kindOf := by
  intro as μ Q Q' h hS
  unfold S_X5_kindOf at hS ⊢
  split at hS
  · exact ⟨hS.1, h _ _ hS.2⟩
  · exact hS.elim
def iX5_kindOf : Inf := (kX5_kindOf, fTX5, pTX5, cTX5, lTX5, sTX5, [(71, 1, 1, 0, S_X5_isDigit), (78, 1, 4, 0, S_X5_says)])
theorem ok_X5_kindOf : infOK iX5_kindOf mX5_kindOf RX5 1 24 := ⟨kkX5_kindOf, fTX5_ok, pTX5_ok _, cTX5_ok, lTX5_ok, sTX5_ok, c_cons ⟨mX5_isDigit, 0, 0, ct_X5_isDigit, mmX5_isDigit, stX5_isDigit, lkX5_71, ⟨by decide, by decide⟩, mono_X5_isDigit⟩ (c_cons ⟨mX5_says, 0, 0, ct_X5_says, mmX5_says, stX5_says, lkX5_78, ⟨by decide, by decide⟩, mono_X5_says⟩ (c_nil))⟩
theorem mt_X5_kindOf : mtOK [] RX5 1 24 := mt_nil
abbrev V_X5_kindOf (R : Mem → Option AV → Prop) (pc : Nat) (lc : List (Nat × AV)) (μ : Mem) : Prop := VM mX5_kindOf RX5 1 24 R pc lc [] μ
set_option maxRecDepth 20000 in
theorem vc_X5_kindOf_0 {R : Mem → Option AV → Prop} {p q : Int} {μ : Mem} (H : (0 ≤ p ∧ p < 500) ∧ P_X5_isDigit (μ 2 p) μ ∧ r32 (F_X5_isDigit (μ 2 p) μ) ∧ (((F_X5_isDigit (μ 2 p) μ) = 0) → (0 ≤ p ∧ p < 500) ∧ r32 (μ 2 p) ∧ ((¬ (μ 2 p) = (59 : Int)) → P_X5_says 2 p q 1 μ ∧ r32 (F_X5_says 2 p q 1 μ) ∧ (((F_X5_says 2 p q 1 μ) = 0) → P_X5_says 2 p q 2 μ ∧ r32 (F_X5_says 2 p q 2 μ) ∧ (((F_X5_says 2 p q 2 μ) = 0) → P_X5_says 2 p q 3 μ ∧ r32 (F_X5_says 2 p q 3 μ) ∧ (((F_X5_says 2 p q 3 μ) = 0) → P_X5_says 2 p q 4 μ ∧ r32 (F_X5_says 2 p q 4 μ) ∧ (((F_X5_says 2 p q 4 μ) = 0) → P_X5_says 2 p q 5 μ ∧ r32 (F_X5_says 2 p q 5 μ) ∧ (((F_X5_says 2 p q 5 μ) = 0) → P_X5_says 2 p q 6 μ ∧ r32 (F_X5_says 2 p q 6 μ) ∧ (((F_X5_says 2 p q 6 μ) = 0) → P_X5_says 2 p q 7 μ ∧ r32 (F_X5_says 2 p q 7 μ) ∧ (((F_X5_says 2 p q 7 μ) = 0) → R μ (some (kI 10))) ∧ (¬ ((F_X5_says 2 p q 7 μ) = 0) → R μ (some (kI 9)))) ∧ (¬ ((F_X5_says 2 p q 6 μ) = 0) → R μ (some (kI 8)))) ∧ (¬ ((F_X5_says 2 p q 5 μ) = 0) → R μ (some (kI 7)))) ∧ (¬ ((F_X5_says 2 p q 4 μ) = 0) → R μ (some (kI 6)))) ∧ (¬ ((F_X5_says 2 p q 3 μ) = 0) → R μ (some (kI 5)))) ∧ (¬ ((F_X5_says 2 p q 2 μ) = 0) → R μ (some (kI 4)))) ∧ (¬ ((F_X5_says 2 p q 1 μ) = 0) → R μ (some (kI 3)))) ∧ (¬ (¬ (μ 2 p) = (59 : Int)) → R μ (some (kI 1)))) ∧ (¬ ((F_X5_isDigit (μ 2 p) μ) = 0) → r32 (q - p) ∧ (((4 : Int) < (q - p)) → R μ (some (kI 10))) ∧ (¬ ((4 : Int) < (q - p)) → R μ (some (kI 2))))) : V_X5_kindOf R 0 [(0, kR 2), (1, kI p), (2, kI q)] μ := by
  refine vm_step2 mt_X5_kindOf ok_X5_kindOf [] 1000 ?_
  show (inA 2 2 p ∨ inA 2 3 p) ∧ P_X5_isDigit (μ 2 p) μ ∧ r32 (F_X5_isDigit (μ 2 p) μ) ∧ (((F_X5_isDigit (μ 2 p) μ) = 0) → (inA 2 2 p ∨ inA 2 3 p) ∧ (r32 (μ 2 p) ∧ r32 (59 : Int)) ∧ ((¬ (μ 2 p) = (59 : Int)) → P_X5_says 2 p q 1 μ ∧ r32 (F_X5_says 2 p q 1 μ) ∧ (((F_X5_says 2 p q 1 μ) = 0) → P_X5_says 2 p q 2 μ ∧ r32 (F_X5_says 2 p q 2 μ) ∧ (((F_X5_says 2 p q 2 μ) = 0) → P_X5_says 2 p q 3 μ ∧ r32 (F_X5_says 2 p q 3 μ) ∧ (((F_X5_says 2 p q 3 μ) = 0) → P_X5_says 2 p q 4 μ ∧ r32 (F_X5_says 2 p q 4 μ) ∧ (((F_X5_says 2 p q 4 μ) = 0) → P_X5_says 2 p q 5 μ ∧ r32 (F_X5_says 2 p q 5 μ) ∧ (((F_X5_says 2 p q 5 μ) = 0) → P_X5_says 2 p q 6 μ ∧ r32 (F_X5_says 2 p q 6 μ) ∧ (((F_X5_says 2 p q 6 μ) = 0) → P_X5_says 2 p q 7 μ ∧ r32 (F_X5_says 2 p q 7 μ) ∧ (((F_X5_says 2 p q 7 μ) = 0) → R μ (some (kI 10))) ∧ (¬ ((F_X5_says 2 p q 7 μ) = 0) → R μ (some (kI 9)))) ∧ (¬ ((F_X5_says 2 p q 6 μ) = 0) → R μ (some (kI 8)))) ∧ (¬ ((F_X5_says 2 p q 5 μ) = 0) → R μ (some (kI 7)))) ∧ (¬ ((F_X5_says 2 p q 4 μ) = 0) → R μ (some (kI 6)))) ∧ (¬ ((F_X5_says 2 p q 3 μ) = 0) → R μ (some (kI 5)))) ∧ (¬ ((F_X5_says 2 p q 2 μ) = 0) → R μ (some (kI 4)))) ∧ (¬ ((F_X5_says 2 p q 1 μ) = 0) → R μ (some (kI 3)))) ∧ (¬ (¬ (μ 2 p) = (59 : Int)) → R μ (some (kI 1)))) ∧ (¬ ((F_X5_isDigit (μ 2 p) μ) = 0) → (r32 (q - p) ∧ r32 (4 : Int)) ∧ (((4 : Int) < (q - p)) → R μ (some (kI 10))) ∧ (¬ ((4 : Int) < (q - p)) → R μ (some (kI 2))))
  exact ⟨Or.inl (isArr.in a_2 H.1.1 H.1.2), ⟨H.2.1, ⟨H.2.2.1, fun hc10 => ⟨Or.inl (isArr.in a_2 (H.2.2.2.1 hc10).1.1 (H.2.2.2.1 hc10).1.2), ⟨⟨(H.2.2.2.1 hc10).2.1, by unfold r32; omega⟩, fun hc8 => ⟨((H.2.2.2.1 hc10).2.2.1 hc8).1, ⟨((H.2.2.2.1 hc10).2.2.1 hc8).2.1, fun hc7 => ⟨(((H.2.2.2.1 hc10).2.2.1 hc8).2.2.1 hc7).1, ⟨(((H.2.2.2.1 hc10).2.2.1 hc8).2.2.1 hc7).2.1, fun hc6 => ⟨((((H.2.2.2.1 hc10).2.2.1 hc8).2.2.1 hc7).2.2.1 hc6).1, ⟨((((H.2.2.2.1 hc10).2.2.1 hc8).2.2.1 hc7).2.2.1 hc6).2.1, fun hc5 => ⟨(((((H.2.2.2.1 hc10).2.2.1 hc8).2.2.1 hc7).2.2.1 hc6).2.2.1 hc5).1, ⟨(((((H.2.2.2.1 hc10).2.2.1 hc8).2.2.1 hc7).2.2.1 hc6).2.2.1 hc5).2.1, fun hc4 => ⟨((((((H.2.2.2.1 hc10).2.2.1 hc8).2.2.1 hc7).2.2.1 hc6).2.2.1 hc5).2.2.1 hc4).1, ⟨((((((H.2.2.2.1 hc10).2.2.1 hc8).2.2.1 hc7).2.2.1 hc6).2.2.1 hc5).2.2.1 hc4).2.1, fun hc3 => ⟨(((((((H.2.2.2.1 hc10).2.2.1 hc8).2.2.1 hc7).2.2.1 hc6).2.2.1 hc5).2.2.1 hc4).2.2.1 hc3).1, ⟨(((((((H.2.2.2.1 hc10).2.2.1 hc8).2.2.1 hc7).2.2.1 hc6).2.2.1 hc5).2.2.1 hc4).2.2.1 hc3).2.1, fun hc2 => ⟨((((((((H.2.2.2.1 hc10).2.2.1 hc8).2.2.1 hc7).2.2.1 hc6).2.2.1 hc5).2.2.1 hc4).2.2.1 hc3).2.2.1 hc2).1, ⟨((((((((H.2.2.2.1 hc10).2.2.1 hc8).2.2.1 hc7).2.2.1 hc6).2.2.1 hc5).2.2.1 hc4).2.2.1 hc3).2.2.1 hc2).2.1, fun hc1 => (((((((((H.2.2.2.1 hc10).2.2.1 hc8).2.2.1 hc7).2.2.1 hc6).2.2.1 hc5).2.2.1 hc4).2.2.1 hc3).2.2.1 hc2).2.2.1 hc1), fun hc1 => (((((((((H.2.2.2.1 hc10).2.2.1 hc8).2.2.1 hc7).2.2.1 hc6).2.2.1 hc5).2.2.1 hc4).2.2.1 hc3).2.2.1 hc2).2.2.2 hc1)⟩⟩, fun hc2 => ((((((((H.2.2.2.1 hc10).2.2.1 hc8).2.2.1 hc7).2.2.1 hc6).2.2.1 hc5).2.2.1 hc4).2.2.1 hc3).2.2.2 hc2)⟩⟩, fun hc3 => (((((((H.2.2.2.1 hc10).2.2.1 hc8).2.2.1 hc7).2.2.1 hc6).2.2.1 hc5).2.2.1 hc4).2.2.2 hc3)⟩⟩, fun hc4 => ((((((H.2.2.2.1 hc10).2.2.1 hc8).2.2.1 hc7).2.2.1 hc6).2.2.1 hc5).2.2.2 hc4)⟩⟩, fun hc5 => (((((H.2.2.2.1 hc10).2.2.1 hc8).2.2.1 hc7).2.2.1 hc6).2.2.2 hc5)⟩⟩, fun hc6 => ((((H.2.2.2.1 hc10).2.2.1 hc8).2.2.1 hc7).2.2.2 hc6)⟩⟩, fun hc7 => (((H.2.2.2.1 hc10).2.2.1 hc8).2.2.2 hc7)⟩⟩, fun hc8 => ((H.2.2.2.1 hc10).2.2.2 hc8)⟩⟩, fun hc10 => ⟨⟨(H.2.2.2.2 hc10).1, by unfold r32; omega⟩, fun hc9 => ((H.2.2.2.2 hc10).2.1 hc9), fun hc9 => ((H.2.2.2.2 hc10).2.2 hc9)⟩⟩⟩⟩
theorem body_X5_kindOf {z p q : Int} {μ : Mem} {R : Mem → Option AV → Prop} (h : P_X5_kindOf z p q μ) (hR : R μ (some (kI (F_X5_kindOf z p q μ)))) : V_X5_kindOf R 0 [(0, kR z), (1, kI p), (2, kI q)] μ := by
  obtain ⟨rfl, hp, hq, ht⟩ := h
  have hb := ht p (by omega) (by omega)
  have ps : ∀ w : Int, 1 ≤ w → w < 8 → P_X5_says 2 p q w μ := fun w w0 w1 => ⟨rfl, by omega, hq, ht, ⟨w0, w1⟩⟩
  have r1 : ∀ b : Bool, r32 (if b = true then 1 else 0) := fun b => by split <;> exact rr (by omega)
  unfold F_X5_kindOf kindT at hR
  refine vc_X5_kindOf_0 ⟨by omega, rr (by omega), ?_⟩
  unfold F_X5_isDigit F_X5_says
  by_cases cd : isDig (μ 2 p) = true
  · rw [if_pos cd] at hR ⊢
    refine ⟨rr (by omega), fun c => absurd c (by omega), fun _ => ⟨rr (by omega), fun c => ?_, fun c => ?_⟩⟩
    · rw [if_neg (by omega)] at hR; exact hR
    · rw [if_pos (by omega)] at hR; exact hR
  rw [if_neg cd] at hR ⊢
  refine ⟨rr (by omega), fun _ => ⟨by omega, rr (by omega), fun c => ?_, fun c => ?_⟩, fun c => absurd rfl c⟩
  · rw [if_neg c] at hR
    have nx : ∀ {b : Bool} {A B : Prop}, (b = false → A) → (b = true → B) → ((if b = true then (1 : Int) else 0) = 0 → A) ∧ (¬ (if b = true then (1 : Int) else 0) = 0 → B) := fun {b A B} hA hB => by
      cases b
      · exact ⟨fun _ => hA rfl, fun c => absurd rfl c⟩
      · exact ⟨fun c => absurd c (by decide), fun _ => hB rfl⟩
    refine ⟨ps 1 (by omega) (by omega), r1 _, nx (fun e1 => ?_) (fun e1 => by rw [e1, if_pos rfl] at hR; exact hR)⟩
    rw [e1, if_neg (by decide)] at hR
    refine ⟨ps 2 (by omega) (by omega), r1 _, nx (fun e1 => ?_) (fun e1 => by rw [e1, if_pos rfl] at hR; exact hR)⟩
    rw [e1, if_neg (by decide)] at hR
    refine ⟨ps 3 (by omega) (by omega), r1 _, nx (fun e1 => ?_) (fun e1 => by rw [e1, if_pos rfl] at hR; exact hR)⟩
    rw [e1, if_neg (by decide)] at hR
    refine ⟨ps 4 (by omega) (by omega), r1 _, nx (fun e1 => ?_) (fun e1 => by rw [e1, if_pos rfl] at hR; exact hR)⟩
    rw [e1, if_neg (by decide)] at hR
    refine ⟨ps 5 (by omega) (by omega), r1 _, nx (fun e1 => ?_) (fun e1 => by rw [e1, if_pos rfl] at hR; exact hR)⟩
    rw [e1, if_neg (by decide)] at hR
    refine ⟨ps 6 (by omega) (by omega), r1 _, nx (fun e1 => ?_) (fun e1 => by rw [e1, if_pos rfl] at hR; exact hR)⟩
    rw [e1, if_neg (by decide)] at hR
    refine ⟨ps 7 (by omega) (by omega), r1 _, nx (fun e1 => ?_) (fun e1 => by rw [e1, if_pos rfl] at hR; exact hR)⟩
    rw [e1, if_neg (by decide)] at hR
    exact hR
  · rw [if_pos (Classical.byContradiction c)] at hR
    exact hR
theorem ct_X5_kindOf : Ct mX5_kindOf 1 24 0 0 (nrmS S_X5_kindOf) := by
  refine ct_vm (own := RX5) (by decide +kernel) rfl ?_ ?_
  · intro as μ Q hS
    unfold S_X5_kindOf at hS
    split at hS
    · exact Nat.le_of_ble_eq_true rfl
    · exact hS.elim
  · intro as μ R hS
    unfold S_X5_kindOf at hS
    split at hS
    · exact body_X5_kindOf hS.1 hS.2
    · exact hS.elim
def P_X5_valueOf (z p q : Int) (_ : Mem) : Prop := z = 2 ∧ (0 ≤ p ∧ p < q) ∧ q ≤ 500
def F_X5_valueOf (_ p q : Int) (μ : Mem) : Int := valT (μ 2) p q
def S_X5_valueOf : S0t := fun as μ Q => match as with
  | [(2, x0), (0, x1), (0, x2)] => P_X5_valueOf x0 x1 x2 μ ∧ Q μ (some (kI (F_X5_valueOf x0 x1 x2 μ)))
  | _ => False
theorem mono_X5_valueOf : Mono S_X5_valueOf := by
  intro as μ Q Q' h hS
  unfold S_X5_valueOf at hS ⊢
  split at hS
  · exact ⟨hS.1, h _ _ hS.2⟩
  · exact hS.elim
def iX5_valueOf : Inf := (kX5_valueOf, fTX5, pTX5, cTX5, lTX5, sTX5, [])
theorem ok_X5_valueOf : infOK iX5_valueOf mX5_valueOf RX5 0 0 := ⟨kkX5_valueOf, fTX5_ok, pTX5_ok _, cTX5_ok, lTX5_ok, sTX5_ok, c_nil⟩
theorem mt_X5_valueOf : mtOK [] RX5 0 0 := mt_nil
abbrev V_X5_valueOf (R : Mem → Option AV → Prop) (pc : Nat) (lc : List (Nat × AV)) (μ : Mem) : Prop := VM mX5_valueOf RX5 0 0 R pc lc [] μ
set_option maxRecDepth 20000 in
theorem vc_X5_valueOf_0 {R : Mem → Option AV → Prop} {p q : Int} {μ : Mem} (H : V_X5_valueOf R 5 [(0, kR 2), (1, kI p), (2, kI q), (3, kI 0), (4, kI p)] μ) : V_X5_valueOf R 0 [(0, kR 2), (1, kI p), (2, kI q)] μ := by
  refine vm_step2 mt_X5_valueOf ok_X5_valueOf [(5, [0, 1, 2, 3, 4])] 1000 ?_
  show V_X5_valueOf R 5 [(0, kR 2), (1, kI p), (2, kI q), (3, kI 0), (4, kI p)] μ
  exact H
set_option maxRecDepth 20000 in
theorem vc_X5_valueOf_5 {R : Mem → Option AV → Prop} {p q x i : Int} {μ : Mem} (H : r32 i ∧ r32 q ∧ ((q ≤ i) → R μ (some (kI x))) ∧ (¬ (q ≤ i) → r32 i ∧ r32 (p + 4) ∧ (((p + 4) ≤ i) → R μ (some (kI x))) ∧ (¬ ((p + 4) ≤ i) → (0 ≤ i ∧ i < 500) ∧ V_X5_valueOf R 5 [(0, kR 2), (1, kI p), (2, kI q), (3, kI ((x * 10) + ((μ 2 i) - 48))), (4, kI (i + 1))] μ))) : V_X5_valueOf R 5 [(0, kR 2), (1, kI p), (2, kI q), (3, kI x), (4, kI i)] μ := by
  refine vm_step2 mt_X5_valueOf ok_X5_valueOf [(5, [0, 1, 2, 3, 4])] 1000 ?_
  show (r32 i ∧ r32 q) ∧ ((q ≤ i) → R μ (some (kI x))) ∧ (¬ (q ≤ i) → (r32 i ∧ r32 (p + 4)) ∧ (((p + 4) ≤ i) → R μ (some (kI x))) ∧ (¬ ((p + 4) ≤ i) → (inA 2 2 i ∨ inA 2 3 i) ∧ V_X5_valueOf R 5 [(0, kR 2), (1, kI p), (2, kI q), (3, kI ((x * 10) + ((μ 2 i) - 48))), (4, kI (i + 1))] μ))
  exact ⟨⟨H.1, H.2.1⟩, fun hc2 => (H.2.2.1 hc2), fun hc2 => ⟨⟨(H.2.2.2 hc2).1, (H.2.2.2 hc2).2.1⟩, fun hc1 => ((H.2.2.2 hc2).2.2.1 hc1), fun hc1 => ⟨Or.inl (isArr.in a_2 ((H.2.2.2 hc2).2.2.2 hc1).1.1 ((H.2.2.2 hc2).2.2.2 hc1).1.2), ((H.2.2.2 hc2).2.2.2 hc1).2⟩⟩⟩
theorem body_X5_valueOf {z p q : Int} {μ : Mem} {R : Mem → Option AV → Prop} (h : P_X5_valueOf z p q μ) (hR : R μ (some (kI (F_X5_valueOf z p q μ)))) : V_X5_valueOf R 0 [(0, kR z), (1, kI p), (2, kI q)] μ := by
  obtain ⟨rfl, hp, hq⟩ := h
  unfold F_X5_valueOf valT at hR
  generalize hm : max 0 (min (q - p) 4) = m at hR
  have key : ∀ i : Int, 0 ≤ i → i ≤ m → V_X5_valueOf R 5 [(0, kR 2), (1, kI p), (2, kI q), (3, kI (fold (fun x i => x * 10 + (μ 2 (p + i) - 48)) 0 i)), (4, kI (p + i))] μ := by
    refine up_ind (P := fun i => V_X5_valueOf R 5 [(0, kR 2), (1, kI p), (2, kI q), (3, kI (fold (fun x i => x * 10 + (μ 2 (p + i) - 48)) 0 i)), (4, kI (p + i))] μ) ?_ ?_
    · intro i i0 i1 ih
      rw [fold_s i0, ← Int.add_assoc] at ih
      exact vc_X5_valueOf_5 ⟨rr (by omega), rr (by omega), fun c => absurd c (by omega), fun _ => ⟨rr (by omega), rr (by omega), fun c => absurd c (by omega), fun _ => ⟨by omega, ih⟩⟩⟩
    · exact vc_X5_valueOf_5 ⟨rr (by omega), rr (by omega), fun _ => hR, fun c => ⟨rr (by omega), rr (by omega), fun _ => hR, fun c2 => absurd (show q - p ≤ m ∨ 4 ≤ m by omega) (by omega)⟩⟩
  have := key 0 (Int.le_refl _) (by omega)
  rw [Int.add_zero] at this
  exact vc_X5_valueOf_0 this
theorem ct_X5_valueOf : Ct mX5_valueOf 0 0 0 0 (nrmS S_X5_valueOf) := by
  refine ct_vm (own := RX5) (by decide +kernel) rfl ?_ ?_
  · intro as μ Q hS
    unfold S_X5_valueOf at hS
    split at hS
    · exact Nat.le_of_ble_eq_true rfl
    · exact hS.elim
  · intro as μ R hS
    unfold S_X5_valueOf at hS
    split at hS
    · exact body_X5_valueOf hS.1 hS.2
    · exact hS.elim
def P_X5_add (o k s x : Int) (μ : Mem) : Prop := o = 145 ∧ (0 ≤ μ 145 3 ∧ μ 145 3 ≤ 500)
def Q_X5_add (_ k s x : Int) (μ μ' : Mem) : Prop := μ' 146 = upd1 (μ 146) (μ 145 3) k ∧ μ' 147 = upd1 (μ 147) (μ 145 3) s ∧ μ' 148 = upd1 (μ 148) (μ 145 3) x ∧ μ' 145 = upd1 (μ 145) 3 (μ 145 3 + 1) ∧ ∀ z : Int, (z < 145 ∨ 148 < z) → μ' z = μ z
def S_X5_add : S0t := fun as μ Q => match as with
  | [(2, x0), (0, x1), (0, x2), (0, x3)] => P_X5_add x0 x1 x2 x3 μ ∧ ∀ (μ' : Mem) , Q_X5_add x0 x1 x2 x3 μ μ'  → Q μ' none
  | _ => False
theorem mono_X5_add : Mono S_X5_add := by
  intro as μ Q Q' h hS
  unfold S_X5_add at hS ⊢
  split at hS
  · exact ⟨hS.1, fun μ' q => h _ _ (hS.2 _ q)⟩
  · exact hS.elim
def iX5_add : Inf := (kX5_add, fTX5, pTX5, cTX5, lTX5, sTX5, [])
theorem ok_X5_add : infOK iX5_add mX5_add RX5 0 0 := ⟨kkX5_add, fTX5_ok, pTX5_ok _, cTX5_ok, lTX5_ok, sTX5_ok, c_nil⟩
theorem mt_X5_add : mtOK [] RX5 0 0 := mt_nil
abbrev V_X5_add (R : Mem → Option AV → Prop) (pc : Nat) (lc : List (Nat × AV)) (μ : Mem) : Prop := VM mX5_add RX5 0 0 R pc lc [] μ
set_option maxRecDepth 20000 in
theorem vc_X5_add_0 {R : Mem → Option AV → Prop} {k s x : Int} {μ : Mem} (H : r32 (μ 145 3) ∧ (((501 : Int) ≤ (μ 145 3)) → R μ none) ∧ (¬ ((501 : Int) ≤ (μ 145 3)) → (0 ≤ (μ 145 3) ∧ (μ 145 3) < 501) ∧ V_X5_add R 22 [(0, kR 145), (2, kI s), (3, kI x)] (updm μ 146 (μ 145 3) k))) : V_X5_add R 0 [(0, kR 145), (1, kI k), (2, kI s), (3, kI x)] μ := by
  refine vm_step2 mt_X5_add ok_X5_add [(22, [0, 2, 3]), (32, [0, 3]), (42, [0])] 1000 ?_
  show isC 145 5 ∧ isC 145 5 ∧ ((0 ≤ (146 : Int) ∧ (146 : Int) < 232) ∧ (LAY (146 : Int).toNat).1 ≤ 3) ∧ (r32 (μ 145 3) ∧ r32 (501 : Int)) ∧ (((501 : Int) ≤ (μ 145 3)) → R μ none) ∧ (¬ ((501 : Int) ≤ (μ 145 3)) → isC 145 5 ∧ isC 145 5 ∧ inA 146 0 (μ 145 3) ∧ V_X5_add R 22 [(0, kR 145), (2, kI s), (3, kI x)] (updm μ 146 (μ 145 3) k))
  exact ⟨c_145, ⟨c_145, ⟨⟨a_146.1, by decide⟩, ⟨⟨H.1, by unfold r32; omega⟩, fun hc1 => (H.2.1 hc1), fun hc1 => ⟨c_145, ⟨c_145, ⟨isArr.in a_146 (H.2.2 hc1).1.1 (H.2.2 hc1).1.2, (H.2.2 hc1).2⟩⟩⟩⟩⟩⟩⟩
set_option maxRecDepth 20000 in
theorem vc_X5_add_22 {R : Mem → Option AV → Prop} {s x : Int} {μ : Mem} (H : (0 ≤ (μ 145 3) ∧ (μ 145 3) < 501) ∧ V_X5_add R 32 [(0, kR 145), (3, kI x)] (updm μ 147 (μ 145 3) s)) : V_X5_add R 22 [(0, kR 145), (2, kI s), (3, kI x)] μ := by
  refine vm_step2 mt_X5_add ok_X5_add [(22, [0, 2, 3]), (32, [0, 3]), (42, [0])] 1000 ?_
  show isC 145 5 ∧ isC 145 5 ∧ inA 147 0 (μ 145 3) ∧ V_X5_add R 32 [(0, kR 145), (3, kI x)] (updm μ 147 (μ 145 3) s)
  exact ⟨c_145, ⟨c_145, ⟨isArr.in a_147 H.1.1 H.1.2, H.2⟩⟩⟩
set_option maxRecDepth 20000 in
theorem vc_X5_add_32 {R : Mem → Option AV → Prop} {x : Int} {μ : Mem} (H : (0 ≤ (μ 145 3) ∧ (μ 145 3) < 501) ∧ V_X5_add R 42 [(0, kR 145)] (updm μ 148 (μ 145 3) x)) : V_X5_add R 32 [(0, kR 145), (3, kI x)] μ := by
  refine vm_step2 mt_X5_add ok_X5_add [(22, [0, 2, 3]), (32, [0, 3]), (42, [0])] 1000 ?_
  show isC 145 5 ∧ isC 145 5 ∧ inA 148 0 (μ 145 3) ∧ V_X5_add R 42 [(0, kR 145)] (updm μ 148 (μ 145 3) x)
  exact ⟨c_145, ⟨c_145, ⟨isArr.in a_148 H.1.1 H.1.2, H.2⟩⟩⟩
set_option maxRecDepth 20000 in
theorem vc_X5_add_42 {R : Mem → Option AV → Prop} {μ : Mem} (H : R (updm μ 145 3 ((μ 145 3) + 1)) none) : V_X5_add R 42 [(0, kR 145)] μ := by
  refine vm_step2 mt_X5_add ok_X5_add [(22, [0, 2, 3]), (32, [0, 3]), (42, [0])] 1000 ?_
  show isC 145 5 ∧ isC 145 5 ∧ 0 = 0 ∧ True ∧ R (updm μ 145 3 ((μ 145 3) + 1)) none
  exact ⟨c_145, ⟨c_145, rfl, trivial, H⟩⟩
theorem body_X5_add {o k s x : Int} {μ : Mem} {R : Mem → Option AV → Prop} (h : P_X5_add o k s x μ) (hR : ∀ μ' : Mem, Q_X5_add o k s x μ μ' → R μ' none) : V_X5_add R 0 [(0, kR o), (1, kI k), (2, kI s), (3, kI x)] μ := by
  obtain ⟨rfl, ht⟩ := h
  refine vc_X5_add_0 ⟨rr (by omega), fun c => absurd c (by omega), fun _ => ⟨by omega, vc_X5_add_22 ?_⟩⟩
  have e1 : updm μ 146 (μ 145 3) k 145 = μ 145 := ru_ne (by omega)
  rw [e1]
  refine ⟨by omega, vc_X5_add_32 ?_⟩
  have e2 : updm (updm μ 146 (μ 145 3) k) 147 (μ 145 3) s 145 = μ 145 := by rw [ru_ne (by omega), ru_ne (by omega)]
  rw [e2]
  refine ⟨by omega, vc_X5_add_42 ?_⟩
  have e3 : updm (updm (updm μ 146 (μ 145 3) k) 147 (μ 145 3) s) 148 (μ 145 3) x 145 = μ 145 := by rw [ru_ne (by omega), ru_ne (by omega), ru_ne (by omega)]
  rw [e3]
  refine hR _ ⟨?_, ?_, ?_, ?_, fun z hz => ?_⟩
  · rw [ru_ne (by omega), ru_ne (by omega), ru_ne (by omega), ru_eq]
  · rw [ru_ne (by omega), ru_ne (by omega), ru_eq, ru_ne (by omega)]
  · rw [ru_ne (by omega), ru_eq, ru_ne (by omega), ru_ne (by omega)]
  · rw [ru_eq, ru_ne (by omega), ru_ne (by omega), ru_ne (by omega)]
  · rw [ru_ne (by omega), ru_ne (by omega), ru_ne (by omega), ru_ne (by omega)]
theorem ct_X5_add : Ct mX5_add 0 0 0 0 (nrmS S_X5_add) := by
  refine ct_vm (own := RX5) (by decide +kernel) rfl ?_ ?_
  · intro as μ Q hS
    unfold S_X5_add at hS
    split at hS
    · exact Nat.le_of_ble_eq_true rfl
    · exact hS.elim
  · intro as μ R hS
    unfold S_X5_add at hS
    split at hS
    · exact body_X5_add hS.1 hS.2
    · exact hS.elim
