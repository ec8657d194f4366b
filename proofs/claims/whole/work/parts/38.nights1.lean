/-- in twelfths: from b to a by night -/
def mvV (v : TV) (a b : Int) : Int := if a = b then 12 - v 3 0 * lanesV v a else if v 7 (8 * a + b) = 0 then 0 else v 3 0
def P_X2_fillMoves (o t : Int) (μ : Mem) : Prop := o = 186 ∧ TB μ t
def Q_X2_fillMoves (_ t : Int) (μ μ' : Mem) : Prop := Holds2 μ' 187 (tv μ t 0 0) (mvV (tv μ t)) ∧ ∀ z : Int, z ≠ 187 → μ' z = μ z
theorem TB_frame {μ μ' : Mem} {t : Int} (h : TB μ t) (hf : ∀ z : Int, t ≤ z → z ≤ t + 9 → μ' z = μ z) : TB μ' t := ⟨h.1, by rw [tv_frame hf]; exact h.2⟩
def S_X2_fillMoves : S0t := fun as μ Q => match as with
  | [(2, x0), (2, x1)] => P_X2_fillMoves x0 x1 μ ∧ ∀ (μ' : Mem) , Q_X2_fillMoves x0 x1 μ μ'  → Q μ' none
  | _ => False
theorem mono_X2_fillMoves : Mono S_X2_fillMoves := by
  intro as μ Q Q' h hS
  unfold S_X2_fillMoves at hS ⊢
  split at hS
  · exact ⟨hS.1, fun μ' q => h _ _ (hS.2 _ q)⟩
  · exact hS.elim
def iX2_fillMoves : Inf := (kX2_fillMoves, fTX2, pTX2, cTX2, lTX2, sTX2, [(50, 0, 1, 7, S_X7_lanesAt), (43, 0, 2, 7, S_X7_hasLane)])
theorem ok_X2_fillMoves : infOK iX2_fillMoves mX2_fillMoves RX2 2 45 := ⟨kkX2_fillMoves, fTX2_ok, pTX2_ok _, cTX2_ok, lTX2_ok, sTX2_ok, c_cons ⟨mX7_lanesAt, 1, 22, ct_X7_lanesAt, mmX7_lanesAt, vvX7_lanesAt, lkX2_50, ⟨by decide, by decide⟩, ⟨_, _, rfl⟩, by decide, mono_X7_lanesAt⟩ (c_cons ⟨mX7_hasLane, 0, 0, ct_X7_hasLane, mmX7_hasLane, vvX7_hasLane, lkX2_43, ⟨by decide, by decide⟩, ⟨_, _, rfl⟩, by decide, mono_X7_hasLane⟩ (c_nil))⟩
theorem mt_X2_fillMoves : mtOK [] RX2 2 45 := mt_nil
abbrev V_X2_fillMoves (R : Mem → Option AV → Prop) (pc : Nat) (lc : List (Nat × AV)) (μ : Mem) : Prop := VM mX2_fillMoves RX2 2 45 R pc lc [] μ
set_option maxRecDepth 20000 in
theorem vc_X2_fillMoves_0 {R : Mem → Option AV → Prop} {t : Int} {μ : Mem} (ht : isT t) (H : V_X2_fillMoves R 2 [(0, kR 186), (1, kR t), (2, kI 0)] μ) : V_X2_fillMoves R 0 [(0, kR 186), (1, kR t)] μ := by
  refine vm_step2 mt_X2_fillMoves ok_X2_fillMoves [(2, [0, 1, 2]), (12, [0, 1, 2, 3])] 1000 ?_
  show V_X2_fillMoves R 2 [(0, kR 186), (1, kR t), (2, kI 0)] μ
  exact H
set_option maxRecDepth 20000 in
theorem vc_X2_fillMoves_2 {R : Mem → Option AV → Prop} {a t : Int} {μ : Mem} (ht : isT t) (H : r32 a ∧ r32 (μ t 1) ∧ (((μ t 1) ≤ a) → R μ none) ∧ (¬ ((μ t 1) ≤ a) → V_X2_fillMoves R 12 [(0, kR 186), (1, kR t), (2, kI a), (3, kI 0)] μ)) : V_X2_fillMoves R 2 [(0, kR 186), (1, kR t), (2, kI a)] μ := by
  refine vm_step2 mt_X2_fillMoves ok_X2_fillMoves [(2, [0, 1, 2]), (12, [0, 1, 2, 3])] 1000 ?_
  show isC t 7 ∧ (r32 a ∧ r32 (μ t 1)) ∧ (((μ t 1) ≤ a) → R μ none) ∧ (¬ ((μ t 1) ≤ a) → V_X2_fillMoves R 12 [(0, kR 186), (1, kR t), (2, kI a), (3, kI 0)] μ)
  exact ⟨isT_C ht, ⟨⟨H.1, H.2.1⟩, fun hc1 => (H.2.2.1 hc1), fun hc1 => (H.2.2.2 hc1)⟩⟩
set_option maxRecDepth 20000 in
theorem vc_X2_fillMoves_12 {R : Mem → Option AV → Prop} {a b t : Int} {μ : Mem} (ht : isT t) (H : r32 b ∧ r32 (μ t 1) ∧ (((μ t 1) ≤ b) → P_X7_lanesAt t a μ ∧ (0 ≤ ((a * 8) + a) ∧ ((a * 8) + a) < 64) ∧ V_X2_fillMoves R 2 [(0, kR 186), (1, kR t), (2, kI (a + 1))] (updm μ 187 ((a * 8) + a) (12 - ((μ t 6) * (F_X7_lanesAt t a μ))))) ∧ (¬ ((μ t 1) ≤ b) → P_X7_hasLane t a b μ ∧ r32 (F_X7_hasLane t a b μ) ∧ (((F_X7_hasLane t a b μ) = 0) → (0 ≤ ((a * 8) + b) ∧ ((a * 8) + b) < 64) ∧ V_X2_fillMoves R 12 [(0, kR 186), (1, kR t), (2, kI a), (3, kI (b + 1))] (updm μ 187 ((a * 8) + b) 0)) ∧ (¬ ((F_X7_hasLane t a b μ) = 0) → (0 ≤ ((a * 8) + b) ∧ ((a * 8) + b) < 64) ∧ V_X2_fillMoves R 12 [(0, kR 186), (1, kR t), (2, kI a), (3, kI (b + 1))] (updm μ 187 ((a * 8) + b) (μ t 6))))) : V_X2_fillMoves R 12 [(0, kR 186), (1, kR t), (2, kI a), (3, kI b)] μ := by
  refine vm_step2 mt_X2_fillMoves ok_X2_fillMoves [(2, [0, 1, 2]), (12, [0, 1, 2, 3])] 1000 ?_
  show isC t 7 ∧ (r32 b ∧ r32 (μ t 1)) ∧ (((μ t 1) ≤ b) → isC 186 2 ∧ isC t 7 ∧ isC t 7 ∧ P_X7_lanesAt t a μ ∧ inA 187 0 ((a * 8) + a) ∧ V_X2_fillMoves R 2 [(0, kR 186), (1, kR t), (2, kI (a + 1))] (updm μ 187 ((a * 8) + a) (12 - ((μ t 6) * (F_X7_lanesAt t a μ))))) ∧ (¬ ((μ t 1) ≤ b) → isC 186 2 ∧ isC t 7 ∧ P_X7_hasLane t a b μ ∧ r32 (F_X7_hasLane t a b μ) ∧ (((F_X7_hasLane t a b μ) = 0) → inA 187 0 ((a * 8) + b) ∧ V_X2_fillMoves R 12 [(0, kR 186), (1, kR t), (2, kI a), (3, kI (b + 1))] (updm μ 187 ((a * 8) + b) 0)) ∧ (¬ ((F_X7_hasLane t a b μ) = 0) → isC t 7 ∧ inA 187 0 ((a * 8) + b) ∧ V_X2_fillMoves R 12 [(0, kR 186), (1, kR t), (2, kI a), (3, kI (b + 1))] (updm μ 187 ((a * 8) + b) (μ t 6))))
  exact ⟨isT_C ht, ⟨⟨H.1, H.2.1⟩, fun hc3 => ⟨c_186, ⟨isT_C ht, ⟨isT_C ht, (H.2.2.1 hc3).1, ⟨isArr.in a_187 (H.2.2.1 hc3).2.1.1 (H.2.2.1 hc3).2.1.2, (H.2.2.1 hc3).2.2⟩⟩⟩⟩, fun hc3 => ⟨c_186, ⟨isT_C ht, (H.2.2.2 hc3).1, ⟨(H.2.2.2 hc3).2.1, fun hc2 => ⟨isArr.in a_187 ((H.2.2.2 hc3).2.2.1 hc2).1.1 ((H.2.2.2 hc3).2.2.1 hc2).1.2, ((H.2.2.2 hc3).2.2.1 hc2).2⟩, fun hc2 => ⟨isT_C ht, ⟨isArr.in a_187 ((H.2.2.2 hc3).2.2.2 hc2).1.1 ((H.2.2.2 hc3).2.2.2 hc2).1.2, ((H.2.2.2 hc3).2.2.2 hc2).2⟩⟩⟩⟩⟩⟩⟩
theorem body_X2_fillMoves {o t : Int} {μ : Mem} {R : Mem → Option AV → Prop} (h : P_X2_fillMoves o t μ) (hR : ∀ μ' : Mem, Q_X2_fillMoves o t μ μ' → R μ' none) : V_X2_fillMoves R 0 [(0, kR o), (1, kR t)] μ := by
  obtain ⟨rfl, ht, ok⟩ := h
  have hp : 2 ≤ μ t 1 ∧ μ t 1 ≤ 8 := ok.1
  have hT := isT_hi ht
  have hmv : 0 ≤ tv μ t 3 0 ∧ tv μ t 3 0 ≤ 12 := ok.2.2.1
  refine vc_X2_fillMoves_0 ht ?_
  have pa : ∀ a : Int, 0 ≤ a → a ≤ μ t 1 → ∀ m : Mem, (∀ z : Int, z ≠ 187 → m z = μ z) → (∀ a' b' : Int, 0 ≤ a' → a' < a → 0 ≤ b' → b' < μ t 1 → m 187 (8 * a' + b') = mvV (tv μ t) a' b') → V_X2_fillMoves R 2 [(0, kR 186), (1, kR t), (2, kI a)] m := by
    refine up_ind (P := fun a => ∀ m : Mem, (∀ z : Int, z ≠ 187 → m z = μ z) → (∀ a' b' : Int, 0 ≤ a' → a' < a → 0 ≤ b' → b' < μ t 1 → m 187 (8 * a' + b') = mvV (tv μ t) a' b') → V_X2_fillMoves R 2 [(0, kR 186), (1, kR t), (2, kI a)] m) ?_ ?_
    · intro a a0 a1 iha m hf hh
      have e1 : m t 1 = μ t 1 := by rw [hf t (by omega)]
      have pb : ∀ b : Int, 0 ≤ b → b ≤ μ t 1 → ∀ m : Mem, (∀ z : Int, z ≠ 187 → m z = μ z) → (∀ a' b' : Int, 0 ≤ a' → a' < a → 0 ≤ b' → b' < μ t 1 → m 187 (8 * a' + b') = mvV (tv μ t) a' b') → (∀ b' : Int, 0 ≤ b' → b' < b → m 187 (8 * a + b') = if tv μ t 7 (8 * a + b') = 0 then 0 else tv μ t 3 0) → V_X2_fillMoves R 12 [(0, kR 186), (1, kR t), (2, kI a), (3, kI b)] m := by
        refine up_ind (P := fun b => ∀ m : Mem, (∀ z : Int, z ≠ 187 → m z = μ z) → (∀ a' b' : Int, 0 ≤ a' → a' < a → 0 ≤ b' → b' < μ t 1 → m 187 (8 * a' + b') = mvV (tv μ t) a' b') → (∀ b' : Int, 0 ≤ b' → b' < b → m 187 (8 * a + b') = if tv μ t 7 (8 * a + b') = 0 then 0 else tv μ t 3 0) → V_X2_fillMoves R 12 [(0, kR 186), (1, kR t), (2, kI a), (3, kI b)] m) ?_ ?_
        · intro b b0 b1 ihb m hf hh hr
          have e1 : m t 1 = μ t 1 := by rw [hf t (by omega)]
          have e6' : m t 6 = tv μ t 3 0 := by rw [hf t (by omega)]; rfl
          have fr : ∀ z : Int, t ≤ z → z ≤ t + 9 → m z = μ z := fun z z0 z1 => hf z (by omega)
          have etv := tv_frame fr
          have i3 : a * 8 + b = 8 * a + b := by omega
          have nx : ∀ x : Int, x = (if tv μ t 7 (8 * a + b) = 0 then 0 else tv μ t 3 0) → V_X2_fillMoves R 12 [(0, kR 186), (1, kR t), (2, kI a), (3, kI (b + 1))] (updm m 187 (a * 8 + b) x) := by
            intro x hx
            rw [i3]
            refine ihb _ (fun z hz => by rw [ru_ne hz]; exact hf z hz) (fun a' b' a0' a1' b0' b1' => ?_) (fun b' b0' b1' => ?_)
            · rw [ru_eq, r1_ne (fun q => by have := idx_inj ⟨b0', by omega⟩ ⟨b0, by omega⟩ q; omega)]
              exact hh a' b' a0' a1' b0' b1'
            · rw [ru_eq]
              by_cases hb : b' = b
              · rw [hb, r1_eq, hx]
              · rw [r1_ne (by omega)]; exact hr b' b0' (by omega)
          refine vc_X2_fillMoves_12 ht ?_
          rw [e1, e6']
          refine ⟨rr (by omega), rr (by omega), fun c => absurd c (by omega), fun _ => ⟨⟨TB_frame ⟨ht, ok⟩ fr, ⟨a0, by omega⟩, b0, by omega⟩, ?_⟩⟩
          unfold F_X7_hasLane
          rw [etv]
          by_cases hz : tv μ t 7 (8 * a + b) = 0
          · rw [if_pos hz]
            exact ⟨rr (by omega), fun _ => ⟨by omega, nx 0 (by rw [if_pos hz])⟩, fun c => absurd rfl c⟩
          · rw [if_neg hz]
            exact ⟨rr (by omega), fun c => absurd c (by omega), fun _ => ⟨by omega, nx _ (by rw [if_neg hz])⟩⟩
        · intro m hf hh hr
          have e1 : m t 1 = μ t 1 := by rw [hf t (by omega)]
          have e6' : m t 6 = tv μ t 3 0 := by rw [hf t (by omega)]; rfl
          have fr : ∀ z : Int, t ≤ z → z ≤ t + 9 → m z = μ z := fun z z0 z1 => hf z (by omega)
          have etv := tv_frame fr
          have i3 : a * 8 + a = 8 * a + a := by omega
          refine vc_X2_fillMoves_12 ht ?_
          unfold F_X7_lanesAt
          rw [e1, e6', etv, i3]
          refine ⟨rr (by omega), rr (by omega), fun _ => ⟨⟨TB_frame ⟨ht, ok⟩ fr, a0, by omega⟩, by omega, ?_⟩, fun c => absurd (Int.le_refl _) c⟩
          refine iha _ (fun z hz => by rw [ru_ne hz]; exact hf z hz) (fun a' b' a0' a1' b0' b1' => ?_)
          rw [ru_eq]
          by_cases he : a' = a ∧ b' = a
          · obtain ⟨rfl, rfl⟩ := he
            rw [r1_eq]
            exact (if_pos rfl).symm
          · rw [r1_ne (fun q => he (idx_inj ⟨b0', by omega⟩ ⟨a0, by omega⟩ q))]
            by_cases ha : a' = a
            · subst ha
              rw [hr b' b0' b1']
              unfold mvV
              exact (if_neg (show ¬ a' = b' from fun q => he ⟨rfl, q.symm⟩)).symm
            · exact hh a' b' a0' (by omega) b0' b1'
      refine vc_X2_fillMoves_2 ht ?_
      rw [e1]
      exact ⟨rr (by omega), rr (by omega), fun c => absurd c (by omega), fun _ => pb 0 (by omega) (by omega) m hf hh (fun b' x0 x1 => absurd x0 (by omega))⟩
    · intro m hf hh
      have e1 : m t 1 = μ t 1 := by rw [hf t (by omega)]
      refine vc_X2_fillMoves_2 ht ?_
      rw [e1]
      exact ⟨rr (by omega), rr (by omega), fun _ => hR m ⟨hh, hf⟩, fun c => absurd (Int.le_refl _) c⟩
  exact pa 0 (by omega) (by omega) μ (fun _ _ => rfl) (fun a' b' x0 x1 => absurd x0 (by omega))
theorem ct_X2_fillMoves : Ct mX2_fillMoves 2 45 0 0 (nrmS S_X2_fillMoves) := by
  refine ct_vm (own := RX2) (by decide +kernel) rfl ?_ ?_
  · intro as μ Q hS
    unfold S_X2_fillMoves at hS
    split at hS
    · exact Nat.le_of_ble_eq_true rfl
    · exact hS.elim
  · intro as μ R hS
    unfold S_X2_fillMoves at hS
    split at hS
    · exact body_X2_fillMoves hS.1 hS.2
    · exact hS.elim
/-- a night: what lies where behind it, in twelfths more -/
def nightV (v : TV) (f : Int → Int) (a : Int) : Int := sm (fun b => mvV v a b * f b) (v 0 0)
theorem mvV_bd {v : TV} (ok : TVok v) (hc : ∀ a : Int, 0 ≤ a → a < v 0 0 → lanesV v a * v 3 0 ≤ 12) {a b : Int} (a0 : 0 ≤ a) (a1 : a < v 0 0) : 0 ≤ mvV v a b ∧ mvV v a b ≤ 12 := by
  have h3 := ok.2.2.1
  have hl := lanesV_bd ok (a := a)
  have h1 := hc a a0 a1
  rw [Int.mul_comm] at h1
  have h2 : 0 ≤ v 3 0 * lanesV v a := Int.mul_nonneg h3.1 hl.1
  unfold mvV
  by_cases he : a = b
  · rw [if_pos he]; omega
  · rw [if_neg he]
    by_cases hz : v 7 (8 * a + b) = 0
    · rw [if_pos hz]; omega
    · rw [if_neg hz]; omega
/-- no place has so many lanes that more than all would move -/
def calm (v : TV) : Prop := ∀ a : Int, 0 ≤ a → a < v 0 0 → lanesV v a * v 3 0 ≤ 12
def P_X2_passNight (o t : Int) (μ : Mem) : Prop := o = 186 ∧ TB μ t ∧ calm (tv μ t) ∧ Holds2 μ 187 (tv μ t 0 0) (mvV (tv μ t))
def Q_X2_passNight (_ t : Int) (μ μ' : Mem) : Prop := (∀ a : Int, 0 ≤ a → a < tv μ t 0 0 → μ' 193 a = nightV (tv μ t) (μ 193) a) ∧ ∀ z : Int, z ≠ 193 → z ≠ 194 → μ' z = μ z
def S_X2_passNight : S0t := fun as μ Q => match as with
  | [(2, x0), (2, x1)] => P_X2_passNight x0 x1 μ ∧ ∀ (μ' : Mem) , Q_X2_passNight x0 x1 μ μ'  → Q μ' none
  | _ => False
theorem mono_X2_passNight : Mono S_X2_passNight := by
  intro as μ Q Q' h hS
  unfold S_X2_passNight at hS ⊢
  split at hS
  · exact ⟨hS.1, fun μ' q => h _ _ (hS.2 _ q)⟩
  · exact hS.elim
def iX2_passNight : Inf := (kX2_passNight, fTX2, pTX2, cTX2, lTX2, sTX2, [(100, 2, 0, 1, S_copy)])
theorem ok_X2_passNight : infOK iX2_passNight mX2_passNight RX2 1 60 := ⟨kkX2_passNight, fTX2_ok, pTX2_ok _, cTX2_ok, lTX2_ok, sTX2_ok, c_cons ⟨by decide, AC_X2_100, AC1, AC2, AC3, by decide, by decide⟩ (c_nil)⟩
theorem mt_X2_passNight : mtOK [] RX2 1 60 := mt_nil
abbrev V_X2_passNight (R : Mem → Option AV → Prop) (pc : Nat) (lc : List (Nat × AV)) (μ : Mem) : Prop := VM mX2_passNight RX2 1 60 R pc lc [] μ
set_option maxRecDepth 20000 in
theorem vc_X2_passNight_0 {R : Mem → Option AV → Prop} {t : Int} {μ : Mem} (ht : isT t) (H : V_X2_passNight R 15 [(0, kR 186), (1, kR t)] (seto μ 194 (cpy0 (μ 193) (μ 194) 8))) : V_X2_passNight R 0 [(0, kR 186), (1, kR t)] μ := by
  refine vm_step2 mt_X2_passNight ok_X2_passNight [(15, [0, 1]), (17, [0, 1, 2]), (32, [0, 1, 2]), (34, [0, 1, 2, 3]), (70, [0, 1, 2, 3])] 1000 ?_
  show isC 186 2 ∧ isC 186 2 ∧ ((0 : Int) = 0 ∧ (0 : Int) = 0) ∧ ((0 ≤ (193 : Int) ∧ (193 : Int) < 232) ∧ (LAY (193 : Int).toNat).1 = 1) ∧ ((0 ≤ (194 : Int) ∧ (194 : Int) < 232) ∧ (LAY (194 : Int).toNat).1 = 1) ∧ (0 ≤ (8 : Int) ∧ (8 : Int) ≤ ((LAY (193 : Int).toNat).2 : Int) ∧ (8 : Int) ≤ ((LAY (194 : Int).toNat).2 : Int)) ∧ (1 = 2 → ∀ j : Int, 0 ≤ j → j < (8 : Int) → -128 ≤ μ 193 j ∧ μ 193 j ≤ 127) ∧ V_X2_passNight R 15 [(0, kR 186), (1, kR t)] (seto μ 194 (cpy0 (μ 193) (μ 194) 8))
  exact ⟨c_186, ⟨c_186, ⟨⟨rfl, rfl⟩, ⟨a_193.1, a_193.k1⟩, ⟨a_194.1, a_194.k1⟩, cpl a_193 a_194 (⟨by omega, by omega⟩ : 0 ≤ (8 : Int) ∧ (8 : Int) ≤ 8) (by decide) (by decide), fun q => absurd q (by decide), H⟩⟩⟩
set_option maxRecDepth 20000 in
theorem vc_X2_passNight_15 {R : Mem → Option AV → Prop} {t : Int} {μ : Mem} (ht : isT t) (H : V_X2_passNight R 17 [(0, kR 186), (1, kR t), (2, kI 0)] μ) : V_X2_passNight R 15 [(0, kR 186), (1, kR t)] μ := by
  refine vm_step2 mt_X2_passNight ok_X2_passNight [(15, [0, 1]), (17, [0, 1, 2]), (32, [0, 1, 2]), (34, [0, 1, 2, 3]), (70, [0, 1, 2, 3])] 1000 ?_
  show V_X2_passNight R 17 [(0, kR 186), (1, kR t), (2, kI 0)] μ
  exact H
set_option maxRecDepth 20000 in
theorem vc_X2_passNight_17 {R : Mem → Option AV → Prop} {a t : Int} {μ : Mem} (ht : isT t) (H : r32 a ∧ r32 (μ t 1) ∧ (((μ t 1) ≤ a) → R μ none) ∧ (¬ ((μ t 1) ≤ a) → (0 ≤ a ∧ a < 8) ∧ V_X2_passNight R 32 [(0, kR 186), (1, kR t), (2, kI a)] (updm μ 193 a 0))) : V_X2_passNight R 17 [(0, kR 186), (1, kR t), (2, kI a)] μ := by
  refine vm_step2 mt_X2_passNight ok_X2_passNight [(15, [0, 1]), (17, [0, 1, 2]), (32, [0, 1, 2]), (34, [0, 1, 2, 3]), (70, [0, 1, 2, 3])] 1000 ?_
  show isC t 7 ∧ (r32 a ∧ r32 (μ t 1)) ∧ (((μ t 1) ≤ a) → R μ none) ∧ (¬ ((μ t 1) ≤ a) → isC 186 2 ∧ inA 193 1 a ∧ V_X2_passNight R 32 [(0, kR 186), (1, kR t), (2, kI a)] (updm μ 193 a 0))
  exact ⟨isT_C ht, ⟨⟨H.1, H.2.1⟩, fun hc1 => (H.2.2.1 hc1), fun hc1 => ⟨c_186, ⟨isArr.in a_193 (H.2.2.2 hc1).1.1 (H.2.2.2 hc1).1.2, (H.2.2.2 hc1).2⟩⟩⟩⟩
set_option maxRecDepth 20000 in
theorem vc_X2_passNight_32 {R : Mem → Option AV → Prop} {a t : Int} {μ : Mem} (ht : isT t) (H : V_X2_passNight R 34 [(0, kR 186), (1, kR t), (2, kI a), (3, kI 0)] μ) : V_X2_passNight R 32 [(0, kR 186), (1, kR t), (2, kI a)] μ := by
  refine vm_step2 mt_X2_passNight ok_X2_passNight [(15, [0, 1]), (17, [0, 1, 2]), (32, [0, 1, 2]), (34, [0, 1, 2, 3]), (70, [0, 1, 2, 3])] 1000 ?_
  show V_X2_passNight R 34 [(0, kR 186), (1, kR t), (2, kI a), (3, kI 0)] μ
  exact H
set_option maxRecDepth 20000 in
theorem vc_X2_passNight_34 {R : Mem → Option AV → Prop} {a b t : Int} {μ : Mem} (ht : isT t) (H : r32 b ∧ r32 (μ t 1) ∧ (((μ t 1) ≤ b) → V_X2_passNight R 17 [(0, kR 186), (1, kR t), (2, kI (a + 1))] μ) ∧ (¬ ((μ t 1) ≤ b) → (0 ≤ a ∧ a < 8) ∧ (0 ≤ ((a * 8) + b) ∧ ((a * 8) + b) < 64) ∧ r32 (μ 187 ((a * 8) + b)) ∧ (0 ≤ b ∧ b < 8) ∧ (0 ≤ a ∧ a < 8) ∧ V_X2_passNight R 70 [(0, kR 186), (1, kR t), (2, kI a), (3, kI b)] (updm μ 193 a ((μ 193 a) + ((μ 187 ((a * 8) + b)) * (μ 194 b)))))) : V_X2_passNight R 34 [(0, kR 186), (1, kR t), (2, kI a), (3, kI b)] μ := by
  refine vm_step2 mt_X2_passNight ok_X2_passNight [(15, [0, 1]), (17, [0, 1, 2]), (32, [0, 1, 2]), (34, [0, 1, 2, 3]), (70, [0, 1, 2, 3])] 1000 ?_
  show isC t 7 ∧ (r32 b ∧ r32 (μ t 1)) ∧ (((μ t 1) ≤ b) → V_X2_passNight R 17 [(0, kR 186), (1, kR t), (2, kI (a + 1))] μ) ∧ (¬ ((μ t 1) ≤ b) → isC 186 2 ∧ inA 193 1 a ∧ isC 186 2 ∧ inA 187 0 ((a * 8) + b) ∧ r32 (μ 187 ((a * 8) + b)) ∧ isC 186 2 ∧ inA 194 1 b ∧ inA 193 1 a ∧ V_X2_passNight R 70 [(0, kR 186), (1, kR t), (2, kI a), (3, kI b)] (updm μ 193 a ((μ 193 a) + ((μ 187 ((a * 8) + b)) * (μ 194 b)))))
  exact ⟨isT_C ht, ⟨⟨H.1, H.2.1⟩, fun hc2 => (H.2.2.1 hc2), fun hc2 => ⟨c_186, ⟨isArr.in a_193 (H.2.2.2 hc2).1.1 (H.2.2.2 hc2).1.2, ⟨c_186, ⟨isArr.in a_187 (H.2.2.2 hc2).2.1.1 (H.2.2.2 hc2).2.1.2, ⟨(H.2.2.2 hc2).2.2.1, ⟨c_186, ⟨isArr.in a_194 (H.2.2.2 hc2).2.2.2.1.1 (H.2.2.2 hc2).2.2.2.1.2, ⟨isArr.in a_193 (H.2.2.2 hc2).2.2.2.2.1.1 (H.2.2.2 hc2).2.2.2.2.1.2, (H.2.2.2 hc2).2.2.2.2.2⟩⟩⟩⟩⟩⟩⟩⟩⟩⟩
set_option maxRecDepth 20000 in
theorem vc_X2_passNight_70 {R : Mem → Option AV → Prop} {a b t : Int} {μ : Mem} (ht : isT t) (H : V_X2_passNight R 34 [(0, kR 186), (1, kR t), (2, kI a), (3, kI (b + 1))] μ) : V_X2_passNight R 70 [(0, kR 186), (1, kR t), (2, kI a), (3, kI b)] μ := by
  refine vm_step2 mt_X2_passNight ok_X2_passNight [(15, [0, 1]), (17, [0, 1, 2]), (32, [0, 1, 2]), (34, [0, 1, 2, 3]), (70, [0, 1, 2, 3])] 1000 ?_
  show V_X2_passNight R 34 [(0, kR 186), (1, kR t), (2, kI a), (3, kI (b + 1))] μ
  exact H
theorem body_X2_passNight {o t : Int} {μ : Mem} {R : Mem → Option AV → Prop} (h : P_X2_passNight o t μ) (hR : ∀ μ' : Mem, Q_X2_passNight o t μ μ' → R μ' none) : V_X2_passNight R 0 [(0, kR o), (1, kR t)] μ := by
  obtain ⟨rfl, ⟨ht, ok⟩, hca, hmo⟩ := h
  have hp : 2 ≤ μ t 1 ∧ μ t 1 ≤ 8 := ok.1
  have hT := isT_hi ht
  refine vc_X2_passNight_0 ht (vc_X2_passNight_15 ht ?_)
  have pa : ∀ a : Int, 0 ≤ a → a ≤ μ t 1 → ∀ m : Mem, (∀ z : Int, z ≠ 193 → z ≠ 194 → m z = μ z) → (∀ b : Int, 0 ≤ b → b < 8 → m 194 b = μ 193 b) → (∀ a' : Int, 0 ≤ a' → a' < a → m 193 a' = nightV (tv μ t) (μ 193) a') → V_X2_passNight R 17 [(0, kR 186), (1, kR t), (2, kI a)] m := by
    refine up_ind (P := fun a => ∀ m : Mem, (∀ z : Int, z ≠ 193 → z ≠ 194 → m z = μ z) → (∀ b : Int, 0 ≤ b → b < 8 → m 194 b = μ 193 b) → (∀ a' : Int, 0 ≤ a' → a' < a → m 193 a' = nightV (tv μ t) (μ 193) a') → V_X2_passNight R 17 [(0, kR 186), (1, kR t), (2, kI a)] m) ?_ ?_
    · intro a a0 a1 iha m hf he hh
      have e1 : m t 1 = μ t 1 := by rw [hf t (by omega) (by omega)]
      have pb : ∀ b : Int, 0 ≤ b → b ≤ μ t 1 → ∀ m : Mem, (∀ z : Int, z ≠ 193 → z ≠ 194 → m z = μ z) → (∀ b : Int, 0 ≤ b → b < 8 → m 194 b = μ 193 b) → (∀ a' : Int, 0 ≤ a' → a' < a → m 193 a' = nightV (tv μ t) (μ 193) a') → m 193 a = sm (fun b => mvV (tv μ t) a b * μ 193 b) b → V_X2_passNight R 34 [(0, kR 186), (1, kR t), (2, kI a), (3, kI b)] m := by
        refine up_ind (P := fun b => ∀ m : Mem, (∀ z : Int, z ≠ 193 → z ≠ 194 → m z = μ z) → (∀ b : Int, 0 ≤ b → b < 8 → m 194 b = μ 193 b) → (∀ a' : Int, 0 ≤ a' → a' < a → m 193 a' = nightV (tv μ t) (μ 193) a') → m 193 a = sm (fun b => mvV (tv μ t) a b * μ 193 b) b → V_X2_passNight R 34 [(0, kR 186), (1, kR t), (2, kI a), (3, kI b)] m) ?_ ?_
        · intro b b0 b1 ihb m hf he hh hs
          have e1 : m t 1 = μ t 1 := by rw [hf t (by omega) (by omega)]
          have i3 : a * 8 + b = 8 * a + b := by omega
          have em : m 187 (8 * a + b) = mvV (tv μ t) a b := by rw [hf 187 (by omega) (by omega)]; exact hmo a b a0 a1 b0 b1
          have ee := he b b0 (by omega)
          have mb := mvV_bd (b := b) ok hca a0 a1
          refine vc_X2_passNight_34 ht ?_
          rw [e1, i3, em, ee, hs]
          refine ⟨rr (by omega), rr (by omega), fun c => absurd c (by omega), fun _ => ⟨by omega, by omega, rr (by omega), by omega, by omega, vc_X2_passNight_70 ht ?_⟩⟩
          refine ihb _ (fun z z0 z1 => by rw [ru_ne z0]; exact hf z z0 z1) (fun b' x0 x1 => by rw [ru_ne (by omega)]; exact he b' x0 x1) (fun a' x0 x1 => by rw [ru_eq, r1_ne (by omega)]; exact hh a' x0 x1) ?_
          rw [ru_eq, r1_eq, sm_s b0]
        · intro m hf he hh hs
          have e1 : m t 1 = μ t 1 := by rw [hf t (by omega) (by omega)]
          refine vc_X2_passNight_34 ht ?_
          rw [e1]
          refine ⟨rr (by omega), rr (by omega), fun _ => iha m hf he (fun a' x0 x1 => ?_), fun c => absurd (Int.le_refl _) c⟩
          by_cases ha : a' = a
          · rw [ha]; exact hs
          · exact hh a' x0 (by omega)
      refine vc_X2_passNight_17 ht ?_
      rw [e1]
      refine ⟨rr (by omega), rr (by omega), fun c => absurd c (by omega), fun _ => ⟨by omega, vc_X2_passNight_32 ht (pb 0 (by omega) (by omega) _ (fun z z0 z1 => by rw [ru_ne z0]; exact hf z z0 z1) (fun b' x0 x1 => by rw [ru_ne (by omega)]; exact he b' x0 x1) (fun a' x0 x1 => by rw [ru_eq, r1_ne (by omega)]; exact hh a' x0 x1) (by rw [ru_eq, r1_eq]; rfl))⟩⟩
    · intro m hf he hh
      have e1 : m t 1 = μ t 1 := by rw [hf t (by omega) (by omega)]
      refine vc_X2_passNight_17 ht ?_
      rw [e1]
      exact ⟨rr (by omega), rr (by omega), fun _ => hR m ⟨hh, hf⟩, fun c => absurd (Int.le_refl _) c⟩
  exact pa 0 (by omega) (by omega) _ (fun z z0 z1 => rs_ne z1) (fun b b0 b1 => by rw [rs_eq, cpy_in b0 b1]) (fun a' x0 x1 => absurd x0 (by omega))
theorem ct_X2_passNight : Ct mX2_passNight 1 60 0 0 (nrmS S_X2_passNight) := by
  refine ct_vm (own := RX2) (by decide +kernel) rfl ?_ ?_
  · intro as μ Q hS
    unfold S_X2_passNight at hS
    split at hS
    · exact Nat.le_of_ble_eq_true rfl
    · exact hS.elim
  · intro as μ R hS
    unfold S_X2_passNight at hS
    split at hS
    · exact body_X2_passNight hS.1 hS.2
    · exact hS.elim
def P_X2_sumNow (o t : Int) (μ : Mem) : Prop := o = 186 ∧ TB μ t
def F_X2_sumNow (_ t : Int) (μ : Mem) : Int := sm (μ 193) (tv μ t 0 0)
def S_X2_sumNow : S0t := fun as μ Q => match as with
  | [(2, x0), (2, x1)] => P_X2_sumNow x0 x1 μ ∧ Q μ (some (kL (F_X2_sumNow x0 x1 μ)))
  | _ => False
theorem mono_X2_sumNow : Mono S_X2_sumNow := by
  intro as μ Q Q' h hS
  unfold S_X2_sumNow at hS ⊢
  split at hS
  · exact ⟨hS.1, h _ _ hS.2⟩
  · exact hS.elim
def iX2_sumNow : Inf := (kX2_sumNow, fTX2, pTX2, cTX2, lTX2, sTX2, [])
theorem ok_X2_sumNow : infOK iX2_sumNow mX2_sumNow RX2 0 0 := ⟨kkX2_sumNow, fTX2_ok, pTX2_ok _, cTX2_ok, lTX2_ok, sTX2_ok, c_nil⟩
theorem mt_X2_sumNow : mtOK [] RX2 0 0 := mt_nil
abbrev V_X2_sumNow (R : Mem → Option AV → Prop) (pc : Nat) (lc : List (Nat × AV)) (μ : Mem) : Prop := VM mX2_sumNow RX2 0 0 R pc lc [] μ
set_option maxRecDepth 20000 in
theorem vc_X2_sumNow_0 {R : Mem → Option AV → Prop} {t : Int} {μ : Mem} (ht : isT t) (H : V_X2_sumNow R 5 [(0, kR 186), (1, kR t), (2, kL 0), (4, kI 0)] μ) : V_X2_sumNow R 0 [(0, kR 186), (1, kR t)] μ := by
  refine vm_step2 mt_X2_sumNow ok_X2_sumNow [(5, [0, 1, 2, 4])] 1000 ?_
  show V_X2_sumNow R 5 [(0, kR 186), (1, kR t), (2, kL 0), (4, kI 0)] μ
  exact H
set_option maxRecDepth 20000 in
theorem vc_X2_sumNow_5 {R : Mem → Option AV → Prop} {s a t : Int} {μ : Mem} (ht : isT t) (H : r32 a ∧ r32 (μ t 1) ∧ (((μ t 1) ≤ a) → R μ (some (kL s))) ∧ (¬ ((μ t 1) ≤ a) → (0 ≤ a ∧ a < 8) ∧ V_X2_sumNow R 5 [(0, kR 186), (1, kR t), (2, kL (s + (μ 193 a))), (4, kI (a + 1))] μ)) : V_X2_sumNow R 5 [(0, kR 186), (1, kR t), (2, kL s), (4, kI a)] μ := by
  refine vm_step2 mt_X2_sumNow ok_X2_sumNow [(5, [0, 1, 2, 4])] 1000 ?_
  show isC t 7 ∧ (r32 a ∧ r32 (μ t 1)) ∧ (((μ t 1) ≤ a) → R μ (some (kL s))) ∧ (¬ ((μ t 1) ≤ a) → isC 186 2 ∧ inA 193 1 a ∧ V_X2_sumNow R 5 [(0, kR 186), (1, kR t), (2, kL (s + (μ 193 a))), (4, kI (a + 1))] μ)
  exact ⟨isT_C ht, ⟨⟨H.1, H.2.1⟩, fun hc1 => (H.2.2.1 hc1), fun hc1 => ⟨c_186, ⟨isArr.in a_193 (H.2.2.2 hc1).1.1 (H.2.2.2 hc1).1.2, (H.2.2.2 hc1).2⟩⟩⟩⟩
theorem body_X2_sumNow {o t : Int} {μ : Mem} {R : Mem → Option AV → Prop} (h : P_X2_sumNow o t μ) (hR : R μ (some (kL (F_X2_sumNow o t μ)))) : V_X2_sumNow R 0 [(0, kR o), (1, kR t)] μ := by
  obtain ⟨rfl, ht, ok⟩ := h
  have hp : 2 ≤ μ t 1 ∧ μ t 1 ≤ 8 := ok.1
  refine vc_X2_sumNow_0 ht ?_
  refine up_ind (P := fun a => V_X2_sumNow R 5 [(0, kR 186), (1, kR t), (2, kL (sm (μ 193) a)), (4, kI a)] μ) (lo := 0) (hi := μ t 1) ?_ ?_ 0 (by omega) (by omega)
  · intro a a0 a1 ih
    rw [sm_s a0] at ih
    exact vc_X2_sumNow_5 ht ⟨rr (by omega), rr (by omega), fun c => absurd c (by omega), fun _ => ⟨by omega, ih⟩⟩
  · exact vc_X2_sumNow_5 ht ⟨rr (by omega), rr (by omega), fun _ => hR, fun c => absurd (Int.le_refl _) c⟩
theorem ct_X2_sumNow : Ct mX2_sumNow 0 0 0 0 (nrmS S_X2_sumNow) := by
  refine ct_vm (own := RX2) (by decide +kernel) rfl ?_ ?_
  · intro as μ Q hS
    unfold S_X2_sumNow at hS
    split at hS
    · exact Nat.le_of_ble_eq_true rfl
    · exact hS.elim
  · intro as μ R hS
    unfold S_X2_sumNow at hS
    split at hS
    · exact body_X2_sumNow hS.1 hS.2
    · exact hS.elim
/-- the place at which a look finds most, or -1; how much -/
def nextP (v : TV) (f : Int → Int) (n : Int) : Int × Int := fold (fun x a => if x.2 < f a * v 5 a then (a, f a * v 5 a) else x) (-1, 0) n
theorem nextP_s {v : TV} {f : Int → Int} {n : Int} (h : 0 ≤ n) : nextP v f (n + 1) = if (nextP v f n).2 < f n * v 5 n then (n, f n * v 5 n) else nextP v f n := fold_s h
def P_X2_likeliestNow (o t : Int) (μ : Mem) : Prop := o = 186 ∧ TB μ t ∧ ∀ a : Int, 0 ≤ a → a < tv μ t 0 0 → 0 ≤ μ 193 a ∧ μ 193 a ≤ 100000000000000000
def F_X2_likeliestNow (_ t : Int) (μ : Mem) : Int := (nextP (tv μ t) (μ 193) (tv μ t 0 0)).1
def S_X2_likeliestNow : S0t := fun as μ Q => match as with
  | [(2, x0), (2, x1)] => P_X2_likeliestNow x0 x1 μ ∧ Q μ (some (kI (F_X2_likeliestNow x0 x1 μ)))
  | _ => False
theorem mono_X2_likeliestNow : Mono S_X2_likeliestNow := by
  intro as μ Q Q' h hS
  unfold S_X2_likeliestNow at hS ⊢
  split at hS
  · exact ⟨hS.1, h _ _ hS.2⟩
  · exact hS.elim
def iX2_likeliestNow : Inf := (kX2_likeliestNow, fTX2, pTX2, cTX2, lTX2, sTX2, [])
theorem ok_X2_likeliestNow : infOK iX2_likeliestNow mX2_likeliestNow RX2 0 0 := ⟨kkX2_likeliestNow, fTX2_ok, pTX2_ok _, cTX2_ok, lTX2_ok, sTX2_ok, c_nil⟩
theorem mt_X2_likeliestNow : mtOK [] RX2 0 0 := mt_nil
abbrev V_X2_likeliestNow (R : Mem → Option AV → Prop) (pc : Nat) (lc : List (Nat × AV)) (μ : Mem) : Prop := VM mX2_likeliestNow RX2 0 0 R pc lc [] μ
set_option maxRecDepth 20000 in
theorem vc_X2_likeliestNow_0 {R : Mem → Option AV → Prop} {t : Int} {μ : Mem} (ht : isT t) (H : V_X2_likeliestNow R 7 [(0, kR 186), (1, kR t), (2, kI (-1)), (3, kL 0), (5, kI 0)] μ) : V_X2_likeliestNow R 0 [(0, kR 186), (1, kR t)] μ := by
  refine vm_step2 mt_X2_likeliestNow ok_X2_likeliestNow [(7, [0, 1, 2, 3, 5])] 1000 ?_
  show V_X2_likeliestNow R 7 [(0, kR 186), (1, kR t), (2, kI (-1)), (3, kL 0), (5, kI 0)] μ
  exact H
set_option maxRecDepth 20000 in
theorem vc_X2_likeliestNow_7 {R : Mem → Option AV → Prop} {best g a t : Int} {μ : Mem} (ht : isT t) (H : r32 a ∧ r32 (μ t 1) ∧ (((μ t 1) ≤ a) → R μ (some (kI best))) ∧ (¬ ((μ t 1) ≤ a) → (0 ≤ a ∧ a < 8) ∧ (0 ≤ a ∧ a < 8) ∧ r32 (μ (t + 4) a) ∧ r64 ((μ 193 a) * (μ (t + 4) a)) ∧ r64 g ∧ ((((μ 193 a) * (μ (t + 4) a)) ≤ g) → V_X2_likeliestNow R 7 [(0, kR 186), (1, kR t), (2, kI best), (3, kL g), (5, kI (a + 1))] μ) ∧ (¬ (((μ 193 a) * (μ (t + 4) a)) ≤ g) → (0 ≤ a ∧ a < 8) ∧ (0 ≤ a ∧ a < 8) ∧ r32 (μ (t + 4) a) ∧ V_X2_likeliestNow R 7 [(0, kR 186), (1, kR t), (2, kI a), (3, kL ((μ 193 a) * (μ (t + 4) a))), (5, kI (a + 1))] μ))) : V_X2_likeliestNow R 7 [(0, kR 186), (1, kR t), (2, kI best), (3, kL g), (5, kI a)] μ := by
  refine vm_step2 mt_X2_likeliestNow ok_X2_likeliestNow [(7, [0, 1, 2, 3, 5])] 1000 ?_
  show isC t 7 ∧ (r32 a ∧ r32 (μ t 1)) ∧ (((μ t 1) ≤ a) → R μ (some (kI best))) ∧ (¬ ((μ t 1) ≤ a) → isC 186 2 ∧ inA 193 1 a ∧ isC t 7 ∧ inA (t + 4) 0 a ∧ r32 (μ (t + 4) a) ∧ (r64 ((μ 193 a) * (μ (t + 4) a)) ∧ r64 g) ∧ r32 (lcm3 ((μ 193 a) * (μ (t + 4) a)) g) ∧ ((lcm3 ((μ 193 a) * (μ (t + 4) a)) g ≤ 0) → V_X2_likeliestNow R 7 [(0, kR 186), (1, kR t), (2, kI best), (3, kL g), (5, kI (a + 1))] μ) ∧ (¬ (lcm3 ((μ 193 a) * (μ (t + 4) a)) g ≤ 0) → isC 186 2 ∧ inA 193 1 a ∧ isC t 7 ∧ inA (t + 4) 0 a ∧ r32 (μ (t + 4) a) ∧ V_X2_likeliestNow R 7 [(0, kR 186), (1, kR t), (2, kI a), (3, kL ((μ 193 a) * (μ (t + 4) a))), (5, kI (a + 1))] μ))
  exact ⟨isT_C ht, ⟨⟨H.1, H.2.1⟩, fun hc2 => (H.2.2.1 hc2), fun hc2 => ⟨c_186, ⟨isArr.in a_193 (H.2.2.2 hc2).1.1 (H.2.2.2 hc2).1.2, ⟨isT_C ht, ⟨isArr.in (T_dog ht) (H.2.2.2 hc2).2.1.1 (H.2.2.2 hc2).2.1.2, ⟨(H.2.2.2 hc2).2.2.1, ⟨⟨(H.2.2.2 hc2).2.2.2.1, (H.2.2.2 hc2).2.2.2.2.1⟩, lcm3_r _ _, fun hc1 => ((H.2.2.2 hc2).2.2.2.2.2.1 (lcm_le.mp hc1)), fun hc1 => ⟨c_186, ⟨isArr.in a_193 ((H.2.2.2 hc2).2.2.2.2.2.2 (fun q => hc1 (lcm_le.mpr q))).1.1 ((H.2.2.2 hc2).2.2.2.2.2.2 (fun q => hc1 (lcm_le.mpr q))).1.2, ⟨isT_C ht, ⟨isArr.in (T_dog ht) ((H.2.2.2 hc2).2.2.2.2.2.2 (fun q => hc1 (lcm_le.mpr q))).2.1.1 ((H.2.2.2 hc2).2.2.2.2.2.2 (fun q => hc1 (lcm_le.mpr q))).2.1.2, ⟨((H.2.2.2 hc2).2.2.2.2.2.2 (fun q => hc1 (lcm_le.mpr q))).2.2.1, ((H.2.2.2 hc2).2.2.2.2.2.2 (fun q => hc1 (lcm_le.mpr q))).2.2.2⟩⟩⟩⟩⟩⟩⟩⟩⟩⟩⟩⟩⟩
theorem body_X2_likeliestNow {o t : Int} {μ : Mem} {R : Mem → Option AV → Prop} (h : P_X2_likeliestNow o t μ) (hR : R μ (some (kI (F_X2_likeliestNow o t μ)))) : V_X2_likeliestNow R 0 [(0, kR o), (1, kR t)] μ := by
  obtain ⟨rfl, ⟨ht, ok⟩, hb⟩ := h
  have hp : 2 ≤ μ t 1 ∧ μ t 1 ≤ 8 := ok.1
  refine vc_X2_likeliestNow_0 ht ?_
  refine up_ind (P := fun a => 0 ≤ (nextP (tv μ t) (μ 193) a).2 ∧ (nextP (tv μ t) (μ 193) a).2 ≤ 1200000000000000000 → V_X2_likeliestNow R 7 [(0, kR 186), (1, kR t), (2, kI (nextP (tv μ t) (μ 193) a).1), (3, kL (nextP (tv μ t) (μ 193) a).2), (5, kI a)] μ) (lo := 0) (hi := μ t 1) ?_ ?_ 0 (by omega) (by omega) (by show (0 : Int) ≤ 0 ∧ (0 : Int) ≤ 1200000000000000000; omega)
  · intro a a0 a1 ih hg
    rw [nextP_s a0] at ih
    have ha := hb a a0 a1
    have hd := (ok.2.2.2.1 a a0 (by omega)).2.1
    have hm := mul_bd (B := 12) ha.1 ha.2 (show 0 ≤ tv μ t 5 a by omega) hd.2
    refine vc_X2_likeliestNow_7 ht ?_
    rw [e5 μ t a0 (by omega)]
    refine ⟨rr (by omega), rr (by omega), fun c => absurd c (by omega), fun _ => ⟨by omega, by omega, rr (by omega), rl (by omega), rl (by omega), fun c => ?_, fun c => ⟨by omega, by omega, rr (by omega), ?_⟩⟩⟩
    · rw [if_neg (by omega)] at ih; exact ih hg
    · rw [if_pos (by omega)] at ih; exact ih (by show 0 ≤ μ 193 a * tv μ t 5 a ∧ μ 193 a * tv μ t 5 a ≤ 1200000000000000000; omega)
  · intro hg
    exact vc_X2_likeliestNow_7 ht ⟨rr (by omega), rr (by omega), fun _ => hR, fun c => absurd (Int.le_refl _) c⟩
theorem ct_X2_likeliestNow : Ct mX2_likeliestNow 0 0 0 0 (nrmS S_X2_likeliestNow) := by
  refine ct_vm (own := RX2) (by decide +kernel) rfl ?_ ?_
  · intro as μ Q hS
    unfold S_X2_likeliestNow at hS
    split at hS
    · exact Nat.le_of_ble_eq_true rfl
    · exact hS.elim
  · intro as μ R hS
    unfold S_X2_likeliestNow at hS
    split at hS
    · exact body_X2_likeliestNow hS.1 hS.2
    · exact hS.elim
