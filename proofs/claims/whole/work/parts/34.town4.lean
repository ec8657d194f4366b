/-- the ways with a lane more -/
def widV (W : Int → Int → Int) (p q k : Int) : Int → Int → Int := fun a b => min (W a b) (k + min (W a p + W q b) (W a q + W p b))
def P_X7_widen (t p q k z : Int) (μ : Mem) : Prop := TB μ t ∧ WY μ t ∧ (0 ≤ p ∧ p < tv μ t 0 0) ∧ (0 ≤ q ∧ q < tv μ t 0 0) ∧ (1 ≤ k ∧ k ≤ 20) ∧ isArr z 0 64 ∧ t + 9 < z
def Q_X7_widen (t p q k z : Int) (μ μ' : Mem) : Prop := Holds2 μ' z (tv μ t 0 0) (widV (wayV (tv μ t)) p q k) ∧ ∀ y : Int, y ≠ z → μ' y = μ y
def S_X7_widen : S0t := fun as μ Q => match as with
  | [(2, x0), (0, x1), (0, x2), (0, x3), (2, x4)] => P_X7_widen x0 x1 x2 x3 x4 μ ∧ ∀ (μ' : Mem) , Q_X7_widen x0 x1 x2 x3 x4 μ μ'  → Q μ' none
  | _ => False
theorem mono_X7_widen : Mono S_X7_widen := by
  intro as μ Q Q' h hS
  unfold S_X7_widen at hS ⊢
  split at hS
  · exact ⟨hS.1, fun μ' q => h _ _ (hS.2 _ q)⟩
  · exact hS.elim
def iX7_widen : Inf := (kX7_widen, fTX7, pTX7, cTX7, lTX7, sTX7, [])
theorem ok_X7_widen : infOK iX7_widen mX7_widen RX7 1 21 := ⟨kkX7_widen, fTX7_ok, pTX7_ok _, cTX7_ok, lTX7_ok, sTX7_ok, c_nil⟩
theorem mt_X7_widen : mtOK [(84, 0)] RX7 1 21 := mt_cons ⟨MI0, by decide, by decide, ML_X7_84, MS0, MC0⟩ (mt_nil)
abbrev V_X7_widen (R : Mem → Option AV → Prop) (pc : Nat) (lc : List (Nat × AV)) (μ : Mem) : Prop := VM mX7_widen RX7 1 21 R pc lc [] μ
set_option maxRecDepth 20000 in
theorem vc_X7_widen_0 {R : Mem → Option AV → Prop} {p q k t z : Int} {μ : Mem} (ht : isT t) (hz : isArr z 0 64) (H : V_X7_widen R 3 [(0, kR t), (1, kI p), (2, kI q), (3, kI k), (4, kR z), (5, kI 0)] μ) : V_X7_widen R 0 [(0, kR t), (1, kI p), (2, kI q), (3, kI k), (4, kR z)] μ := by
  refine vm_step2 mt_X7_widen ok_X7_widen [(3, [0, 1, 2, 3, 4, 5]), (15, [0, 1, 2, 3, 4, 5, 6])] 1000 ?_
  show V_X7_widen R 3 [(0, kR t), (1, kI p), (2, kI q), (3, kI k), (4, kR z), (5, kI 0)] μ
  exact H
set_option maxRecDepth 20000 in
theorem vc_X7_widen_3 {R : Mem → Option AV → Prop} {p q k a t z : Int} {μ : Mem} (ht : isT t) (hz : isArr z 0 64) (H : r32 a ∧ r32 (μ t 1) ∧ (((μ t 1) ≤ a) → R μ none) ∧ (¬ ((μ t 1) ≤ a) → V_X7_widen R 15 [(0, kR t), (1, kI p), (2, kI q), (3, kI k), (4, kR z), (5, kI a), (6, kI 0)] μ)) : V_X7_widen R 3 [(0, kR t), (1, kI p), (2, kI q), (3, kI k), (4, kR z), (5, kI a)] μ := by
  refine vm_step2 mt_X7_widen ok_X7_widen [(3, [0, 1, 2, 3, 4, 5]), (15, [0, 1, 2, 3, 4, 5, 6])] 1000 ?_
  show isC t 7 ∧ (r32 a ∧ r32 (μ t 1)) ∧ (((μ t 1) ≤ a) → R μ none) ∧ (¬ ((μ t 1) ≤ a) → V_X7_widen R 15 [(0, kR t), (1, kI p), (2, kI q), (3, kI k), (4, kR z), (5, kI a), (6, kI 0)] μ)
  exact ⟨isT_C ht, ⟨⟨H.1, H.2.1⟩, fun hc1 => (H.2.2.1 hc1), fun hc1 => (H.2.2.2 hc1)⟩⟩
set_option maxRecDepth 20000 in
theorem vc_X7_widen_15 {R : Mem → Option AV → Prop} {p q k a b t z : Int} {μ : Mem} (ht : isT t) (hz : isArr z 0 64) (H : r32 b ∧ r32 (μ t 1) ∧ (((μ t 1) ≤ b) → V_X7_widen R 3 [(0, kR t), (1, kI p), (2, kI q), (3, kI k), (4, kR z), (5, kI (a + 1))] μ) ∧ (¬ ((μ t 1) ≤ b) → (0 ≤ ((a * 8) + p) ∧ ((a * 8) + p) < 64) ∧ (0 ≤ ((q * 8) + b) ∧ ((q * 8) + b) < 64) ∧ (0 ≤ ((a * 8) + q) ∧ ((a * 8) + q) < 64) ∧ (0 ≤ ((p * 8) + b) ∧ ((p * 8) + b) < 64) ∧ r32 ((μ (t + 2) ((a * 8) + p)) + (μ (t + 2) ((q * 8) + b))) ∧ r32 ((μ (t + 2) ((a * 8) + q)) + (μ (t + 2) ((p * 8) + b))) ∧ (0 ≤ ((a * 8) + b) ∧ ((a * 8) + b) < 64) ∧ r32 (μ (t + 2) ((a * 8) + b)) ∧ r32 (k + (min ((μ (t + 2) ((a * 8) + p)) + (μ (t + 2) ((q * 8) + b))) ((μ (t + 2) ((a * 8) + q)) + (μ (t + 2) ((p * 8) + b))))) ∧ (0 ≤ ((a * 8) + b) ∧ ((a * 8) + b) < 64) ∧ V_X7_widen R 15 [(0, kR t), (1, kI p), (2, kI q), (3, kI k), (4, kR z), (5, kI a), (6, kI (b + 1))] (updm μ z ((a * 8) + b) (min (μ (t + 2) ((a * 8) + b)) (k + (min ((μ (t + 2) ((a * 8) + p)) + (μ (t + 2) ((q * 8) + b))) ((μ (t + 2) ((a * 8) + q)) + (μ (t + 2) ((p * 8) + b))))))))) : V_X7_widen R 15 [(0, kR t), (1, kI p), (2, kI q), (3, kI k), (4, kR z), (5, kI a), (6, kI b)] μ := by
  refine vm_step2 mt_X7_widen ok_X7_widen [(3, [0, 1, 2, 3, 4, 5]), (15, [0, 1, 2, 3, 4, 5, 6])] 1000 ?_
  show isC t 7 ∧ (r32 b ∧ r32 (μ t 1)) ∧ (((μ t 1) ≤ b) → V_X7_widen R 3 [(0, kR t), (1, kI p), (2, kI q), (3, kI k), (4, kR z), (5, kI (a + 1))] μ) ∧ (¬ ((μ t 1) ≤ b) → isC t 7 ∧ inA (t + 2) 0 ((a * 8) + p) ∧ isC t 7 ∧ inA (t + 2) 0 ((q * 8) + b) ∧ isC t 7 ∧ inA (t + 2) 0 ((a * 8) + q) ∧ isC t 7 ∧ inA (t + 2) 0 ((p * 8) + b) ∧ (r32 ((μ (t + 2) ((a * 8) + p)) + (μ (t + 2) ((q * 8) + b))) ∧ r32 ((μ (t + 2) ((a * 8) + q)) + (μ (t + 2) ((p * 8) + b)))) ∧ isC t 7 ∧ inA (t + 2) 0 ((a * 8) + b) ∧ (r32 (μ (t + 2) ((a * 8) + b)) ∧ r32 (k + (min ((μ (t + 2) ((a * 8) + p)) + (μ (t + 2) ((q * 8) + b))) ((μ (t + 2) ((a * 8) + q)) + (μ (t + 2) ((p * 8) + b)))))) ∧ inA z 0 ((a * 8) + b) ∧ V_X7_widen R 15 [(0, kR t), (1, kI p), (2, kI q), (3, kI k), (4, kR z), (5, kI a), (6, kI (b + 1))] (updm μ z ((a * 8) + b) (min (μ (t + 2) ((a * 8) + b)) (k + (min ((μ (t + 2) ((a * 8) + p)) + (μ (t + 2) ((q * 8) + b))) ((μ (t + 2) ((a * 8) + q)) + (μ (t + 2) ((p * 8) + b))))))))
  exact ⟨isT_C ht, ⟨⟨H.1, H.2.1⟩, fun hc2 => (H.2.2.1 hc2), fun hc2 => ⟨isT_C ht, ⟨isArr.in (T_ways ht) (H.2.2.2 hc2).1.1 (H.2.2.2 hc2).1.2, ⟨isT_C ht, ⟨isArr.in (T_ways ht) (H.2.2.2 hc2).2.1.1 (H.2.2.2 hc2).2.1.2, ⟨isT_C ht, ⟨isArr.in (T_ways ht) (H.2.2.2 hc2).2.2.1.1 (H.2.2.2 hc2).2.2.1.2, ⟨isT_C ht, ⟨isArr.in (T_ways ht) (H.2.2.2 hc2).2.2.2.1.1 (H.2.2.2 hc2).2.2.2.1.2, ⟨⟨(H.2.2.2 hc2).2.2.2.2.1, (H.2.2.2 hc2).2.2.2.2.2.1⟩, ⟨isT_C ht, ⟨isArr.in (T_ways ht) (H.2.2.2 hc2).2.2.2.2.2.2.1.1 (H.2.2.2 hc2).2.2.2.2.2.2.1.2, ⟨⟨(H.2.2.2 hc2).2.2.2.2.2.2.2.1, (H.2.2.2 hc2).2.2.2.2.2.2.2.2.1⟩, ⟨isArr.in hz (H.2.2.2 hc2).2.2.2.2.2.2.2.2.2.1.1 (H.2.2.2 hc2).2.2.2.2.2.2.2.2.2.1.2, (H.2.2.2 hc2).2.2.2.2.2.2.2.2.2.2⟩⟩⟩⟩⟩⟩⟩⟩⟩⟩⟩⟩⟩⟩⟩
theorem body_X7_widen {t p q k z : Int} {μ : Mem} {R : Mem → Option AV → Prop} (h : P_X7_widen t p q k z μ) (hR : ∀ μ' : Mem, Q_X7_widen t p q k z μ μ' → R μ' none) : V_X7_widen R 0 [(0, kR t), (1, kI p), (2, kI q), (3, kI k), (4, kR z)] μ := by
  obtain ⟨⟨ht, ok⟩, hw, hp1, hq1, hk, hz, htz⟩ := h
  have hp : 2 ≤ μ t 1 ∧ μ t 1 ≤ 8 := ok.1
  have e0 : tv μ t 0 0 = μ t 1 := rfl
  rw [e0] at hp1 hq1
  refine vc_X7_widen_0 ht hz ?_
  have pa : ∀ a : Int, 0 ≤ a → a ≤ μ t 1 → ∀ μ1 : Mem, (∀ y : Int, y ≠ z → μ1 y = μ y) → (∀ a' b' : Int, 0 ≤ a' → a' < a → 0 ≤ b' → b' < μ t 1 → μ1 z (8 * a' + b') = widV (wayV (tv μ t)) p q k a' b') → V_X7_widen R 3 [(0, kR t), (1, kI p), (2, kI q), (3, kI k), (4, kR z), (5, kI a)] μ1 := by
    refine up_ind (P := fun a => ∀ μ1 : Mem, (∀ y : Int, y ≠ z → μ1 y = μ y) → (∀ a' b' : Int, 0 ≤ a' → a' < a → 0 ≤ b' → b' < μ t 1 → μ1 z (8 * a' + b') = widV (wayV (tv μ t)) p q k a' b') → V_X7_widen R 3 [(0, kR t), (1, kI p), (2, kI q), (3, kI k), (4, kR z), (5, kI a)] μ1) ?_ ?_
    · intro a a0 a1 iha μ1 hf hh
      have e1 : μ1 t 1 = μ t 1 := by rw [hf t (by omega)]
      have pb : ∀ b : Int, 0 ≤ b → b ≤ μ t 1 → ∀ μ1 : Mem, (∀ y : Int, y ≠ z → μ1 y = μ y) → (∀ a' b' : Int, 0 ≤ a' → 0 ≤ b' → b' < μ t 1 → (a' < a ∨ (a' = a ∧ b' < b)) → μ1 z (8 * a' + b') = widV (wayV (tv μ t)) p q k a' b') → V_X7_widen R 15 [(0, kR t), (1, kI p), (2, kI q), (3, kI k), (4, kR z), (5, kI a), (6, kI b)] μ1 := by
        refine up_ind (P := fun b => ∀ μ1 : Mem, (∀ y : Int, y ≠ z → μ1 y = μ y) → (∀ a' b' : Int, 0 ≤ a' → 0 ≤ b' → b' < μ t 1 → (a' < a ∨ (a' = a ∧ b' < b)) → μ1 z (8 * a' + b') = widV (wayV (tv μ t)) p q k a' b') → V_X7_widen R 15 [(0, kR t), (1, kI p), (2, kI q), (3, kI k), (4, kR z), (5, kI a), (6, kI b)] μ1) ?_ ?_
        · intro b b0 b1 ihb μ2 hf2 hh2
          have e2 : μ2 t 1 = μ t 1 := by rw [hf2 t (by omega)]
          have e3 : μ2 (t + 2) = μ (t + 2) := hf2 (t + 2) (by omega)
          have w1 := (hw a p a0 a1 hp1.1 hp1.2)
          have w2 := (hw q b hq1.1 hq1.2 b0 b1)
          have w3 := (hw a q a0 a1 hq1.1 hq1.2)
          have w4 := (hw p b hp1.1 hp1.2 b0 b1)
          have w5 := (hw a b a0 a1 b0 b1)
          refine vc_X7_widen_15 ht hz ?_
          rw [e2, e3, e8 hw a0 a1 hp1.1 hp1.2, e8 hw hq1.1 hq1.2 b0 b1, e8 hw a0 a1 hq1.1 hq1.2, e8 hw hp1.1 hp1.2 b0 b1, e8 hw a0 a1 b0 b1]
          refine ⟨rr (by omega), rr (by omega), fun c => absurd c (by omega), fun _ => ⟨by omega, by omega, by omega, by omega, rr (by omega), rr (by omega), by omega, rr (by omega), rr (by omega), by omega, ?_⟩⟩
          refine ihb _ (fun y hy => ?_) (fun a' b' a0' b0' b1' hd => ?_)
          · rw [ru_ne hy]; exact hf2 y hy
          · have i3 : a * 8 + b = 8 * a + b := by omega
            rw [ru_eq, i3]
            by_cases he : a' = a ∧ b' = b
            · obtain ⟨rfl, rfl⟩ := he
              rw [r1_eq]
              rfl
            · rw [r1_ne (fun x => he (idx_inj ⟨b0', by omega⟩ ⟨b0, by omega⟩ x))]
              exact hh2 a' b' a0' b0' b1' (by omega)
        · intro μ2 hf2 hh2
          have e2 : μ2 t 1 = μ t 1 := by rw [hf2 t (by omega)]
          refine vc_X7_widen_15 ht hz ?_
          rw [e2]
          exact ⟨rr (by omega), rr (by omega), fun _ => iha μ2 hf2 (fun a' b' a0' a1' b0' b1' => hh2 a' b' a0' b0' b1' (by omega)), fun c => absurd (Int.le_refl _) c⟩
      refine vc_X7_widen_3 ht hz ?_
      rw [e1]
      exact ⟨rr (by omega), rr (by omega), fun c => absurd c (by omega), fun _ => pb 0 (by omega) (by omega) μ1 hf (fun a' b' a0' b0' b1' hd => hh a' b' a0' (by omega) b0' b1')⟩
    · intro μ1 hf hh
      have e1 : μ1 t 1 = μ t 1 := by rw [hf t (by omega)]
      refine vc_X7_widen_3 ht hz ?_
      rw [e1]
      exact ⟨rr (by omega), rr (by omega), fun _ => hR μ1 ⟨hh, hf⟩, fun c => absurd (Int.le_refl _) c⟩
  exact pa 0 (by omega) (by omega) μ (fun _ _ => rfl) (fun a' b' x0 x1 => absurd x0 (by omega))
theorem ct_X7_widen : Ct mX7_widen 1 21 0 0 (nrmS S_X7_widen) := by
  refine ct_vm (own := RX7) (by decide +kernel) rfl ?_ ?_
  · intro as μ Q hS
    unfold S_X7_widen at hS
    split at hS
    · exact Nat.le_of_ble_eq_true rfl
    · exact hS.elim
  · intro as μ R hS
    unfold S_X7_widen at hS
    split at hS
    · exact body_X7_widen hS.1 hS.2
    · exact hS.elim
