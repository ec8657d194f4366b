def P_X7_has (t a : Int) (μ : Mem) : Prop := isT t ∧ r32 a ∧ r32 (μ t 1)
def F_X7_has (t a : Int) (μ : Mem) : Int := if 0 ≤ a ∧ a < μ t 1 then 1 else 0
def S_X7_has : S0t := fun as μ Q => match as with
  | [(2, x0), (0, x1)] => P_X7_has x0 x1 μ ∧ Q μ (some (kI (F_X7_has x0 x1 μ)))
  | _ => False
theorem mono_X7_has : Mono S_X7_has := by
  intro as μ Q Q' h hS
  unfold S_X7_has at hS ⊢
  split at hS
  · exact ⟨hS.1, h _ _ hS.2⟩
  · exact hS.elim
def iX7_has : Inf := (kX7_has, fTX7, pTX7, cTX7, lTX7, sTX7, [])
theorem ok_X7_has : infOK iX7_has mX7_has RX7 0 0 := ⟨kkX7_has, fTX7_ok, pTX7_ok _, cTX7_ok, lTX7_ok, sTX7_ok, c_nil⟩
set_option maxRecDepth 20000 in
theorem vc_X7_has_0 {R : Mem → Option AV → Prop} {a t : Int} {μ : Mem} (ht : isT t) (H : r32 a ∧ ((a < 0) → R μ (some (kI 0))) ∧ (¬ (a < 0) → r32 a ∧ r32 (μ t 1) ∧ (((μ t 1) ≤ a) → R μ (some (kI 0))) ∧ (¬ ((μ t 1) ≤ a) → R μ (some (kI 1))))) : VM mX7_has RX7 0 0 R 0 [(0, kR t), (1, kI a)] [] μ := by
  refine vm_step ok_X7_has [] 1000 ?_
  show r32 a ∧ ((a < 0) → (0 ≤ (0 : Int) ∧ (0 : Int) ≤ 1) ∧ R μ (some (kI 0))) ∧ (¬ (a < 0) → isC t 7 ∧ (r32 a ∧ r32 (μ t 1)) ∧ (((μ t 1) ≤ a) → (0 ≤ (0 : Int) ∧ (0 : Int) ≤ 1) ∧ R μ (some (kI 0))) ∧ (¬ ((μ t 1) ≤ a) → (0 ≤ (1 : Int) ∧ (1 : Int) ≤ 1) ∧ R μ (some (kI 1))))
  exact ⟨H.1, fun hc2 => ⟨⟨by omega, by omega⟩, (H.2.1 hc2)⟩, fun hc2 => ⟨isT_C ht, ⟨⟨(H.2.2 hc2).1, (H.2.2 hc2).2.1⟩, fun hc1 => ⟨⟨by omega, by omega⟩, ((H.2.2 hc2).2.2.1 hc1)⟩, fun hc1 => ⟨⟨by omega, by omega⟩, ((H.2.2 hc2).2.2.2 hc1)⟩⟩⟩⟩
theorem body_X7_has {t a : Int} {μ : Mem} {R : Mem → Option AV → Prop} (h : P_X7_has t a μ) (hR : R μ (some (kI (F_X7_has t a μ)))) : VM mX7_has RX7 0 0 R 0 [(0, kR t), (1, kI a)] [] μ := by
  obtain ⟨ht, h1, h2⟩ := h
  refine vc_X7_has_0 ht ⟨h1, fun c1 => ?_, fun c1 => ⟨h1, h2, fun c2 => ?_, fun c2 => ?_⟩⟩ <;> (unfold F_X7_has at hR)
  · rw [if_neg (by omega)] at hR; exact hR
  · rw [if_neg (by omega)] at hR; exact hR
  · rw [if_pos (by omega)] at hR; exact hR
theorem ct_X7_has : Ct mX7_has 0 0 0 0 (nrmS S_X7_has) := by
  refine ct_vm (own := RX7) (by decide +kernel) rfl ?_ ?_
  · intro as μ Q hS
    unfold S_X7_has at hS
    split at hS
    · exact Nat.le_of_ble_eq_true rfl
    · exact hS.elim
  · intro as μ R hS
    unfold S_X7_has at hS
    split at hS
    · exact body_X7_has hS.1 hS.2
    · exact hS.elim
def P_X7_hasLane (t a b : Int) (μ : Mem) : Prop := isT t ∧ (0 ≤ a * 8 + b ∧ a * 8 + b < 64) ∧ r32 (μ (t + 1) (a * 8 + b))
def F_X7_hasLane (t a b : Int) (μ : Mem) : Int := if μ (t + 1) (a * 8 + b) = 0 then 0 else 1
def S_X7_hasLane : S0t := fun as μ Q => match as with
  | [(2, x0), (0, x1), (0, x2)] => P_X7_hasLane x0 x1 x2 μ ∧ Q μ (some (kI (F_X7_hasLane x0 x1 x2 μ)))
  | _ => False
theorem mono_X7_hasLane : Mono S_X7_hasLane := by
  intro as μ Q Q' h hS
  unfold S_X7_hasLane at hS ⊢
  split at hS
  · exact ⟨hS.1, h _ _ hS.2⟩
  · exact hS.elim
def iX7_hasLane : Inf := (kX7_hasLane, fTX7, pTX7, cTX7, lTX7, sTX7, [])
theorem ok_X7_hasLane : infOK iX7_hasLane mX7_hasLane RX7 0 0 := ⟨kkX7_hasLane, fTX7_ok, pTX7_ok _, cTX7_ok, lTX7_ok, sTX7_ok, c_nil⟩
set_option maxRecDepth 20000 in
theorem vc_X7_hasLane_0 {R : Mem → Option AV → Prop} {a b t : Int} {μ : Mem} (ht : isT t) (H : (0 ≤ ((a * 8) + b) ∧ ((a * 8) + b) < 64) ∧ r32 (μ (t + 1) ((a * 8) + b)) ∧ (((μ (t + 1) ((a * 8) + b)) = 0) → R μ (some (kI 0))) ∧ (¬ ((μ (t + 1) ((a * 8) + b)) = 0) → R μ (some (kI 1)))) : VM mX7_hasLane RX7 0 0 R 0 [(0, kR t), (1, kI a), (2, kI b)] [] μ := by
  refine vm_step ok_X7_hasLane [] 1000 ?_
  show isC t 7 ∧ inA (t + 1) 0 ((a * 8) + b) ∧ r32 (μ (t + 1) ((a * 8) + b)) ∧ (((μ (t + 1) ((a * 8) + b)) = 0) → (0 ≤ (0 : Int) ∧ (0 : Int) ≤ 1) ∧ R μ (some (kI 0))) ∧ (¬ ((μ (t + 1) ((a * 8) + b)) = 0) → (0 ≤ (1 : Int) ∧ (1 : Int) ≤ 1) ∧ R μ (some (kI 1)))
  exact ⟨isT_C ht, ⟨isArr.in (T_minutes ht) H.1.1 H.1.2, ⟨H.2.1, fun hc1 => ⟨⟨by omega, by omega⟩, (H.2.2.1 hc1)⟩, fun hc1 => ⟨⟨by omega, by omega⟩, (H.2.2.2 hc1)⟩⟩⟩⟩
theorem body_X7_hasLane {t a b : Int} {μ : Mem} {R : Mem → Option AV → Prop} (h : P_X7_hasLane t a b μ) (hR : R μ (some (kI (F_X7_hasLane t a b μ)))) : VM mX7_hasLane RX7 0 0 R 0 [(0, kR t), (1, kI a), (2, kI b)] [] μ := by
  obtain ⟨ht, h1, h2⟩ := h
  unfold F_X7_hasLane at hR
  refine vc_X7_hasLane_0 ht ⟨h1, h2, fun c1 => ?_, fun c1 => ?_⟩
  · rw [if_pos c1] at hR; exact hR
  · rw [if_neg c1] at hR; exact hR
theorem ct_X7_hasLane : Ct mX7_hasLane 0 0 0 0 (nrmS S_X7_hasLane) := by
  refine ct_vm (own := RX7) (by decide +kernel) rfl ?_ ?_
  · intro as μ Q hS
    unfold S_X7_hasLane at hS
    split at hS
    · exact Nat.le_of_ble_eq_true rfl
    · exact hS.elim
  · intro as μ R hS
    unfold S_X7_hasLane at hS
    split at hS
    · exact body_X7_hasLane hS.1 hS.2
    · exact hS.elim
def cntL (μ : Mem) (t a : Int) : Nat → Int
  | 0 => 0
  | n + 1 => cntL μ t a n + (if μ (t + 1) (a * 8 + n) = 0 then 0 else 1)
def P_X7_lanesAt (t a : Int) (μ : Mem) : Prop := isT t ∧ (0 ≤ a ∧ a < 8) ∧ (0 ≤ μ t 1 ∧ μ t 1 ≤ 8) ∧ ∀ j : Int, 0 ≤ j → j < 64 → r32 (μ (t + 1) j)
def F_X7_lanesAt (t a : Int) (μ : Mem) : Int := cntL μ t a (μ t 1).toNat
def S_X7_lanesAt : S0t := fun as μ Q => match as with
  | [(2, x0), (0, x1)] => P_X7_lanesAt x0 x1 μ ∧ Q μ (some (kI (F_X7_lanesAt x0 x1 μ)))
  | _ => False
theorem mono_X7_lanesAt : Mono S_X7_lanesAt := by
  intro as μ Q Q' h hS
  unfold S_X7_lanesAt at hS ⊢
  split at hS
  · exact ⟨hS.1, h _ _ hS.2⟩
  · exact hS.elim
def iX7_lanesAt : Inf := (kX7_lanesAt, fTX7, pTX7, cTX7, lTX7, sTX7, [(90, 0, 2, 7, S_X7_hasLane)])
theorem ok_X7_lanesAt : infOK iX7_lanesAt mX7_lanesAt RX7 1 22 := ⟨kkX7_lanesAt, fTX7_ok, pTX7_ok _, cTX7_ok, lTX7_ok, sTX7_ok, c_cons ⟨mX7_hasLane, 0, 0, ct_X7_hasLane, mmX7_hasLane, vvX7_hasLane, lkX7_90, ⟨by decide, by decide⟩, ⟨_, _, rfl⟩, by decide, mono_X7_hasLane⟩ (c_nil)⟩
set_option maxRecDepth 20000 in
theorem vc_X7_lanesAt_0 {R : Mem → Option AV → Prop} {a t : Int} {μ : Mem} (ht : isT t) (H : VM mX7_lanesAt RX7 1 22 R 4 [(0, kR t), (1, kI a), (2, kI 0), (3, kI 0)] [] μ) : VM mX7_lanesAt RX7 1 22 R 0 [(0, kR t), (1, kI a)] [] μ := by
  refine vm_step ok_X7_lanesAt [(4, [0, 1, 2, 3])] 1000 ?_
  show VM mX7_lanesAt RX7 1 22 R 4 [(0, kR t), (1, kI a), (2, kI 0), (3, kI 0)] [] μ
  exact H
set_option maxRecDepth 20000 in
theorem vc_X7_lanesAt_4 {R : Mem → Option AV → Prop} {a sum b t : Int} {μ : Mem} (ht : isT t) (H : r32 b ∧ r32 (μ t 1) ∧ (((μ t 1) ≤ b) → R μ (some (kI sum))) ∧ (¬ ((μ t 1) ≤ b) → P_X7_hasLane t a b μ ∧ r32 (F_X7_hasLane t a b μ) ∧ (((F_X7_hasLane t a b μ) = 0) → VM mX7_lanesAt RX7 1 22 R 4 [(0, kR t), (1, kI a), (2, kI sum), (3, kI (b + 1))] [] μ) ∧ (¬ ((F_X7_hasLane t a b μ) = 0) → VM mX7_lanesAt RX7 1 22 R 4 [(0, kR t), (1, kI a), (2, kI (sum + 1)), (3, kI (b + 1))] [] μ))) : VM mX7_lanesAt RX7 1 22 R 4 [(0, kR t), (1, kI a), (2, kI sum), (3, kI b)] [] μ := by
  refine vm_step ok_X7_lanesAt [(4, [0, 1, 2, 3])] 1000 ?_
  show isC t 7 ∧ (r32 b ∧ r32 (μ t 1)) ∧ (((μ t 1) ≤ b) → R μ (some (kI sum))) ∧ (¬ ((μ t 1) ≤ b) → isC t 7 ∧ P_X7_hasLane t a b μ ∧ r32 (F_X7_hasLane t a b μ) ∧ (((F_X7_hasLane t a b μ) = 0) → VM mX7_lanesAt RX7 1 22 R 4 [(0, kR t), (1, kI a), (2, kI sum), (3, kI (b + 1))] [] μ) ∧ (¬ ((F_X7_hasLane t a b μ) = 0) → VM mX7_lanesAt RX7 1 22 R 4 [(0, kR t), (1, kI a), (2, kI (sum + 1)), (3, kI (b + 1))] [] μ))
  exact ⟨isT_C ht, ⟨⟨H.1, H.2.1⟩, fun hc2 => (H.2.2.1 hc2), fun hc2 => ⟨isT_C ht, (H.2.2.2 hc2).1, ⟨(H.2.2.2 hc2).2.1, fun hc1 => ((H.2.2.2 hc2).2.2.1 hc1), fun hc1 => ((H.2.2.2 hc2).2.2.2 hc1)⟩⟩⟩⟩
