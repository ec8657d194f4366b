def P_X0_fillOnes (g k : Int) (μ : Mem) : Prop := GB μ g ∧ (1 ≤ k ∧ k ≤ μ g 0) ∧ Pk k (μ g 0) (μ (g + 4))
def Q_X0_fillOnes (g k : Int) (μ μ' : Mem) : Prop := (∀ z : Int, z ≠ g + 5 → z ≠ g + 7 → z ≠ g + 8 → μ' z = μ z) ∧ ∀ q : Int → Int, Pk (k - 1) (μ g 1) q → μ' (g + 7) (rkV (k - 1) q) = onV (Fm μ g) k (μ (g + 4)) q
def S_X0_fillOnes : S0t := fun as μ Q => match as with
  | [(2, x0), (0, x1)] => P_X0_fillOnes x0 x1 μ ∧ ∀ (μ' : Mem) , Q_X0_fillOnes x0 x1 μ μ'  → Q μ' none
  | _ => False
theorem mono_X0_fillOnes : Mono S_X0_fillOnes := by
  intro as μ Q Q' h hS
  unfold S_X0_fillOnes at hS ⊢
  split at hS
  · exact ⟨hS.1, fun μ' q => h _ _ (hS.2 _ q)⟩
  · exact hS.elim
def iX0_fillOnes : Inf := (kX0_fillOnes, fTX0, pTX0, cTX0, lTX0, sTX0, [(104, 1, 2, 0, S_X0_pickFirst), (133, 1, 2, 0, S_X10_determinant), (137, 0, 1, 0, S_X0_rankOf), (129, 0, 2, 0, S_X0_minuteAt), (125, 1, 3, 0, S_X0_pickNext)])
theorem ok_X0_fillOnes : infOK iX0_fillOnes mX0_fillOnes RX0 1 24 := ⟨kkX0_fillOnes, fTX0_ok, pTX0_ok _, cTX0_ok, lTX0_ok, sTX0_ok, c_cons ⟨mX0_pickFirst, 0, 0, ct_X0_pickFirst, mmX0_pickFirst, stX0_pickFirst, lkX0_104, ⟨by decide, by decide⟩, mono_X0_pickFirst⟩ (c_cons ⟨mX10_determinant, 0, 0, ct_X10_determinant, mmX10_determinant, stX10_determinant, lkX0_133, ⟨by decide, by decide⟩, mono_X10_determinant⟩ (c_cons ⟨mX0_rankOf, 0, 0, ct_X0_rankOf, mmX0_rankOf, vvX0_rankOf, lkX0_137, ⟨by decide, by decide⟩, ⟨_, _, rfl⟩, by decide, mono_X0_rankOf⟩ (c_cons ⟨mX0_minuteAt, 0, 0, ct_X0_minuteAt, mmX0_minuteAt, vvX0_minuteAt, lkX0_129, ⟨by decide, by decide⟩, ⟨_, _, rfl⟩, by decide, mono_X0_minuteAt⟩ (c_cons ⟨mX0_pickNext, 0, 0, ct_X0_pickNext, mmX0_pickNext, stX0_pickNext, lkX0_125, ⟨by decide, by decide⟩, mono_X0_pickNext⟩ (c_nil)))))⟩
theorem mt_X0_fillOnes : mtOK [] RX0 1 24 := mt_nil
abbrev V_X0_fillOnes (R : Mem → Option AV → Prop) (pc : Nat) (lc : List (Nat × AV)) (μ : Mem) : Prop := VM mX0_fillOnes RX0 1 24 R pc lc [] μ
set_option maxRecDepth 20000 in
theorem vc_X0_fillOnes_0 {R : Mem → Option AV → Prop} {k g : Int} {μ : Mem} (hg : isG g) (H : P_X0_pickFirst (g + 5) (k - 1) μ ∧ (∀ (μ1 : Mem), Q_X0_pickFirst (g + 5) (k - 1) μ μ1 → V_X0_fillOnes R 10 [(0, kR g), (1, kI k)] μ1)) : V_X0_fillOnes R 0 [(0, kR g), (1, kI k)] μ := by
  refine vm_step2 mt_X0_fillOnes ok_X0_fillOnes [(10, [0, 1]), (14, [0, 1, 2, 3]), (27, [0, 1, 3, 4]), (36, [0, 1, 3, 4, 5]), (74, [0, 1, 3, 4, 5]), (125, [0, 1, 3])] 1000 ?_
  show isC g 0 ∧ P_X0_pickFirst (g + 5) (k - 1) μ ∧ (∀ (μ1 : Mem), Q_X0_pickFirst (g + 5) (k - 1) μ μ1 → V_X0_fillOnes R 10 [(0, kR g), (1, kI k)] μ1)
  exact ⟨isG_C hg, ⟨H.1, fun μ1 hq3 => (H.2 μ1 hq3)⟩⟩
set_option maxRecDepth 20000 in
theorem vc_X0_fillOnes_10 {R : Mem → Option AV → Prop} {k g : Int} {μ : Mem} (hg : isG g) (H : V_X0_fillOnes R 14 [(0, kR g), (1, kI k), (2, kI 1), (3, kI 0)] μ) : V_X0_fillOnes R 10 [(0, kR g), (1, kI k)] μ := by
  refine vm_step2 mt_X0_fillOnes ok_X0_fillOnes [(10, [0, 1]), (14, [0, 1, 2, 3]), (27, [0, 1, 3, 4]), (36, [0, 1, 3, 4, 5]), (74, [0, 1, 3, 4, 5]), (125, [0, 1, 3])] 1000 ?_
  show V_X0_fillOnes R 14 [(0, kR g), (1, kI k), (2, kI 1), (3, kI 0)] μ
  exact H
set_option maxRecDepth 20000 in
theorem vc_X0_fillOnes_14 {R : Mem → Option AV → Prop} {k an i g : Int} {μ : Mem} (hg : isG g) (H : r32 i ∧ (((1000000 : Int) ≤ i) → R μ none) ∧ (¬ ((1000000 : Int) ≤ i) → r32 an ∧ ((an = 0) → R μ none) ∧ (¬ (an = 0) → V_X0_fillOnes R 27 [(0, kR g), (1, kI k), (3, kI i), (4, kI 1)] μ))) : V_X0_fillOnes R 14 [(0, kR g), (1, kI k), (2, kI an), (3, kI i)] μ := by
  refine vm_step2 mt_X0_fillOnes ok_X0_fillOnes [(10, [0, 1]), (14, [0, 1, 2, 3]), (27, [0, 1, 3, 4]), (36, [0, 1, 3, 4, 5]), (74, [0, 1, 3, 4, 5]), (125, [0, 1, 3])] 1000 ?_
  show (r32 i ∧ r32 (1000000 : Int)) ∧ (((1000000 : Int) ≤ i) → R μ none) ∧ (¬ ((1000000 : Int) ≤ i) → r32 an ∧ ((an = 0) → R μ none) ∧ (¬ (an = 0) → V_X0_fillOnes R 27 [(0, kR g), (1, kI k), (3, kI i), (4, kI 1)] μ))
  exact ⟨⟨H.1, by unfold r32; omega⟩, fun hc5 => (H.2.1 hc5), fun hc5 => ⟨(H.2.2 hc5).1, fun hc4 => ((H.2.2 hc5).2.1 hc4), fun hc4 => ((H.2.2 hc5).2.2 hc4)⟩⟩
set_option maxRecDepth 20000 in
theorem vc_X0_fillOnes_27 {R : Mem → Option AV → Prop} {k i l g : Int} {μ : Mem} (hg : isG g) (H : r32 l ∧ r32 k ∧ ((k ≤ l) → P_X10_determinant (g + 8) (k - 1) μ ∧ P_X0_rankOf g (k - 1) μ ∧ r32 (band k 1) ∧ ((¬ (band k 1) = (1 : Int)) → (0 ≤ (F_X0_rankOf g (k - 1) μ) ∧ (F_X0_rankOf g (k - 1) μ) < 2024) ∧ V_X0_fillOnes R 125 [(0, kR g), (1, kI k), (3, kI i)] (updm μ (g + 7) (F_X0_rankOf g (k - 1) μ) (-(F_X10_determinant (g + 8) (k - 1) μ)))) ∧ (¬ (¬ (band k 1) = (1 : Int)) → (0 ≤ (F_X0_rankOf g (k - 1) μ) ∧ (F_X0_rankOf g (k - 1) μ) < 2024) ∧ V_X0_fillOnes R 125 [(0, kR g), (1, kI k), (3, kI i)] (updm μ (g + 7) (F_X0_rankOf g (k - 1) μ) (F_X10_determinant (g + 8) (k - 1) μ)))) ∧ (¬ (k ≤ l) → V_X0_fillOnes R 36 [(0, kR g), (1, kI k), (3, kI i), (4, kI l), (5, kI 0)] μ)) : V_X0_fillOnes R 27 [(0, kR g), (1, kI k), (3, kI i), (4, kI l)] μ := by
  refine vm_step2 mt_X0_fillOnes ok_X0_fillOnes [(10, [0, 1]), (14, [0, 1, 2, 3]), (27, [0, 1, 3, 4]), (36, [0, 1, 3, 4, 5]), (74, [0, 1, 3, 4, 5]), (125, [0, 1, 3])] 1000 ?_
  show (r32 l ∧ r32 k) ∧ ((k ≤ l) → isC g 0 ∧ P_X10_determinant (g + 8) (k - 1) μ ∧ isC g 0 ∧ isC g 0 ∧ P_X0_rankOf g (k - 1) μ ∧ (r32 (band k 1) ∧ r32 (1 : Int)) ∧ ((¬ (band k 1) = (1 : Int)) → inA (g + 7) 1 (F_X0_rankOf g (k - 1) μ) ∧ V_X0_fillOnes R 125 [(0, kR g), (1, kI k), (3, kI i)] (updm μ (g + 7) (F_X0_rankOf g (k - 1) μ) (-(F_X10_determinant (g + 8) (k - 1) μ)))) ∧ (¬ (¬ (band k 1) = (1 : Int)) → inA (g + 7) 1 (F_X0_rankOf g (k - 1) μ) ∧ V_X0_fillOnes R 125 [(0, kR g), (1, kI k), (3, kI i)] (updm μ (g + 7) (F_X0_rankOf g (k - 1) μ) (F_X10_determinant (g + 8) (k - 1) μ)))) ∧ (¬ (k ≤ l) → V_X0_fillOnes R 36 [(0, kR g), (1, kI k), (3, kI i), (4, kI l), (5, kI 0)] μ)
  exact ⟨⟨H.1, H.2.1⟩, fun hc7 => ⟨isG_C hg, ⟨(H.2.2.1 hc7).1, ⟨isG_C hg, ⟨isG_C hg, (H.2.2.1 hc7).2.1, ⟨⟨(H.2.2.1 hc7).2.2.1, by unfold r32; omega⟩, fun hc6 => ⟨isArr.in (Gm_ones hg) ((H.2.2.1 hc7).2.2.2.1 hc6).1.1 ((H.2.2.1 hc7).2.2.2.1 hc6).1.2, ((H.2.2.1 hc7).2.2.2.1 hc6).2⟩, fun hc6 => ⟨isArr.in (Gm_ones hg) ((H.2.2.1 hc7).2.2.2.2 hc6).1.1 ((H.2.2.1 hc7).2.2.2.2 hc6).1.2, ((H.2.2.1 hc7).2.2.2.2 hc6).2⟩⟩⟩⟩⟩⟩, fun hc7 => (H.2.2.2 hc7)⟩
set_option maxRecDepth 20000 in
theorem vc_X0_fillOnes_36 {R : Mem → Option AV → Prop} {k i l c g : Int} {μ : Mem} (hg : isG g) (H : r32 c ∧ r32 (k - 1) ∧ (((k - 1) ≤ c) → V_X0_fillOnes R 27 [(0, kR g), (1, kI k), (3, kI i), (4, kI (l + 1))] μ) ∧ (¬ ((k - 1) ≤ c) → P_X0_minuteAt g l c μ ∧ P_X0_minuteAt g 0 c μ ∧ (0 ≤ (((l - 1) * 3) + c) ∧ (((l - 1) * 3) + c) < 9) ∧ V_X0_fillOnes R 74 [(0, kR g), (1, kI k), (3, kI i), (4, kI l), (5, kI c)] (updm μ (g + 8) (((l - 1) * 3) + c) ((F_X0_minuteAt g l c μ) - (F_X0_minuteAt g 0 c μ))))) : V_X0_fillOnes R 36 [(0, kR g), (1, kI k), (3, kI i), (4, kI l), (5, kI c)] μ := by
  refine vm_step2 mt_X0_fillOnes ok_X0_fillOnes [(10, [0, 1]), (14, [0, 1, 2, 3]), (27, [0, 1, 3, 4]), (36, [0, 1, 3, 4, 5]), (74, [0, 1, 3, 4, 5]), (125, [0, 1, 3])] 1000 ?_
  show (r32 c ∧ r32 (k - 1)) ∧ (((k - 1) ≤ c) → V_X0_fillOnes R 27 [(0, kR g), (1, kI k), (3, kI i), (4, kI (l + 1))] μ) ∧ (¬ ((k - 1) ≤ c) → isC g 0 ∧ isC g 0 ∧ P_X0_minuteAt g l c μ ∧ isC g 0 ∧ P_X0_minuteAt g 0 c μ ∧ inA (g + 8) 1 (((l - 1) * 3) + c) ∧ V_X0_fillOnes R 74 [(0, kR g), (1, kI k), (3, kI i), (4, kI l), (5, kI c)] (updm μ (g + 8) (((l - 1) * 3) + c) ((F_X0_minuteAt g l c μ) - (F_X0_minuteAt g 0 c μ))))
  exact ⟨⟨H.1, H.2.1⟩, fun hc8 => (H.2.2.1 hc8), fun hc8 => ⟨isG_C hg, ⟨isG_C hg, (H.2.2.2 hc8).1, ⟨isG_C hg, (H.2.2.2 hc8).2.1, ⟨isArr.in (Gm_square hg) (H.2.2.2 hc8).2.2.1.1 (H.2.2.2 hc8).2.2.1.2, (H.2.2.2 hc8).2.2.2⟩⟩⟩⟩⟩
set_option maxRecDepth 20000 in
theorem vc_X0_fillOnes_74 {R : Mem → Option AV → Prop} {k i l c g : Int} {μ : Mem} (hg : isG g) (H : V_X0_fillOnes R 36 [(0, kR g), (1, kI k), (3, kI i), (4, kI l), (5, kI (c + 1))] μ) : V_X0_fillOnes R 74 [(0, kR g), (1, kI k), (3, kI i), (4, kI l), (5, kI c)] μ := by
  refine vm_step2 mt_X0_fillOnes ok_X0_fillOnes [(10, [0, 1]), (14, [0, 1, 2, 3]), (27, [0, 1, 3, 4]), (36, [0, 1, 3, 4, 5]), (74, [0, 1, 3, 4, 5]), (125, [0, 1, 3])] 1000 ?_
  show V_X0_fillOnes R 36 [(0, kR g), (1, kI k), (3, kI i), (4, kI l), (5, kI (c + 1))] μ
  exact H
set_option maxRecDepth 20000 in
theorem vc_X0_fillOnes_125 {R : Mem → Option AV → Prop} {k i g : Int} {μ : Mem} (hg : isG g) (H : P_X0_pickNext (g + 5) (k - 1) (μ g 1) μ ∧ (∀ (μ9 : Mem) (rv10 : Int), Q_X0_pickNext (g + 5) (k - 1) (μ g 1) μ μ9 rv10 → V_X0_fillOnes R 14 [(0, kR g), (1, kI k), (2, kI rv10), (3, kI (i + 1))] μ9)) : V_X0_fillOnes R 125 [(0, kR g), (1, kI k), (3, kI i)] μ := by
  refine vm_step2 mt_X0_fillOnes ok_X0_fillOnes [(10, [0, 1]), (14, [0, 1, 2, 3]), (27, [0, 1, 3, 4]), (36, [0, 1, 3, 4, 5]), (74, [0, 1, 3, 4, 5]), (125, [0, 1, 3])] 1000 ?_
  show isC g 0 ∧ isC g 0 ∧ P_X0_pickNext (g + 5) (k - 1) (μ g 1) μ ∧ (∀ (μ9 : Mem) (rv10 : Int), Q_X0_pickNext (g + 5) (k - 1) (μ g 1) μ μ9 rv10 → V_X0_fillOnes R 14 [(0, kR g), (1, kI k), (2, kI rv10), (3, kI (i + 1))] μ9)
  exact ⟨isG_C hg, ⟨isG_C hg, ⟨H.1, fun μ9 rv10 hq11 => (H.2 μ9 rv10 hq11)⟩⟩⟩
theorem body_X0_fillOnes {g k : Int} {μ : Mem} {R : Mem → Option AV → Prop} (h : P_X0_fillOnes g k μ) (hR : ∀ μ' : Mem, Q_X0_fillOnes g k μ μ' → R μ' none) : V_X0_fillOnes R 0 [(0, kR g), (1, kI k)] μ := by
  obtain ⟨hb, hk, hcp⟩ := h
  have hg := hb.1
  have hg2 := isG_two hg
  have hn := hb.2.1
  have hN := hb.2.2.1
  have hk4 : 1 ≤ k ∧ k ≤ 4 := by omega
  refine vc_X0_fillOnes_0 hg ⟨⟨Gm_rowPick hg, by omega⟩, fun m1 q1 => vc_X0_fillOnes_10 hg ?_⟩
  have pf := pk_first (p := m1 (g + 5)) (n := μ g 1) (show 0 ≤ k - 1 by omega) (by omega) (by omega) q1.1
  have pa : ∀ i : Int, 0 ≤ i → i ≤ 1000000 → ∀ (m : Mem) (an : Int), (∀ z : Int, z ≠ g + 5 → z ≠ g + 7 → z ≠ g + 8 → m z = μ z) → (an = 0 ∨ an = 1) → Pk (k - 1) (μ g 1) (m (g + 5)) → i ≤ cod (k - 1) (m (g + 5)) + 1 - an →
      (∀ q : Int → Int, Pk (k - 1) (μ g 1) q → an = 0 ∨ cod (k - 1) q < cod (k - 1) (m (g + 5)) → m (g + 7) (rkV (k - 1) q) = onV (Fm μ g) k (μ (g + 4)) q) → V_X0_fillOnes R 14 [(0, kR g), (1, kI k), (2, kI an), (3, kI i)] m := by
    refine up_ind (P := fun i => ∀ (m : Mem) (an : Int), (∀ z : Int, z ≠ g + 5 → z ≠ g + 7 → z ≠ g + 8 → m z = μ z) → (an = 0 ∨ an = 1) → Pk (k - 1) (μ g 1) (m (g + 5)) → i ≤ cod (k - 1) (m (g + 5)) + 1 - an →
      (∀ q : Int → Int, Pk (k - 1) (μ g 1) q → an = 0 ∨ cod (k - 1) q < cod (k - 1) (m (g + 5)) → m (g + 7) (rkV (k - 1) q) = onV (Fm μ g) k (μ (g + 4)) q) → V_X0_fillOnes R 14 [(0, kR g), (1, kI k), (2, kI an), (3, kI i)] m) ?_ ?_
    · intro i i0 i1 ih m an hf han hp hi ht
      refine vc_X0_fillOnes_14 hg ⟨rr (by omega), fun c => absurd c (by omega), fun _ => ⟨rr (by omega), fun c => hR m ⟨hf, fun q hq => ht q hq (Or.inl c)⟩, fun c => ?_⟩⟩
      have h1 : an = 1 := by omega
      subst h1
      have cb := cod_bd hp hN.2 (by omega) (by omega)
      -- the lines
      have pl : ∀ l : Int, 1 ≤ l → l ≤ k → ∀ m' : Mem, (∀ z : Int, z ≠ g + 8 → m' z = m z) → (∀ l' c' : Int, 1 ≤ l' → l' < l → 0 ≤ c' → c' < k - 1 → m' (g + 8) ((l' - 1) * 3 + c') = Fm μ g (μ (g + 4) l') (m (g + 5) c') - Fm μ g (μ (g + 4) 0) (m (g + 5) c')) → V_X0_fillOnes R 27 [(0, kR g), (1, kI k), (3, kI i), (4, kI l)] m' := by
        refine up_ind (P := fun l => ∀ m' : Mem, (∀ z : Int, z ≠ g + 8 → m' z = m z) → (∀ l' c' : Int, 1 ≤ l' → l' < l → 0 ≤ c' → c' < k - 1 → m' (g + 8) ((l' - 1) * 3 + c') = Fm μ g (μ (g + 4) l') (m (g + 5) c') - Fm μ g (μ (g + 4) 0) (m (g + 5) c')) → V_X0_fillOnes R 27 [(0, kR g), (1, kI k), (3, kI i), (4, kI l)] m') ?_ ?_
        · intro l l0 l1 ihl m' hf' hs
          have pc : ∀ c : Int, 0 ≤ c → c ≤ k - 1 → ∀ m' : Mem, (∀ z : Int, z ≠ g + 8 → m' z = m z) → (∀ l' c' : Int, 1 ≤ l' → l' < l → 0 ≤ c' → c' < k - 1 → m' (g + 8) ((l' - 1) * 3 + c') = Fm μ g (μ (g + 4) l') (m (g + 5) c') - Fm μ g (μ (g + 4) 0) (m (g + 5) c')) → (∀ c' : Int, 0 ≤ c' → c' < c → m' (g + 8) ((l - 1) * 3 + c') = Fm μ g (μ (g + 4) l) (m (g + 5) c') - Fm μ g (μ (g + 4) 0) (m (g + 5) c')) → V_X0_fillOnes R 36 [(0, kR g), (1, kI k), (3, kI i), (4, kI l), (5, kI c)] m' := by
            refine up_ind (P := fun c => ∀ m' : Mem, (∀ z : Int, z ≠ g + 8 → m' z = m z) → (∀ l' c' : Int, 1 ≤ l' → l' < l → 0 ≤ c' → c' < k - 1 → m' (g + 8) ((l' - 1) * 3 + c') = Fm μ g (μ (g + 4) l') (m (g + 5) c') - Fm μ g (μ (g + 4) 0) (m (g + 5) c')) → (∀ c' : Int, 0 ≤ c' → c' < c → m' (g + 8) ((l - 1) * 3 + c') = Fm μ g (μ (g + 4) l) (m (g + 5) c') - Fm μ g (μ (g + 4) 0) (m (g + 5) c')) → V_X0_fillOnes R 36 [(0, kR g), (1, kI k), (3, kI i), (4, kI l), (5, kI c)] m') ?_ ?_
            · intro c c0 c1 ihc m' hf' hs hsc
              have e2 : m' (g + 2) = μ (g + 2) := by rw [hf' _ (by omega), hf _ (by omega) (by omega) (by omega)]
              have e4 : m' (g + 4) = μ (g + 4) := by rw [hf' _ (by omega), hf _ (by omega) (by omega) (by omega)]
              have e5 : m' (g + 5) = m (g + 5) := hf' _ (by omega)
              have h1 := Pk_at hp (by omega) c0 c1
              have ma : ∀ l, F_X0_minuteAt g l c m' = Fm μ g (μ (g + 4) l) (m (g + 5) c) := fun l => by
                unfold F_X0_minuteAt Fm
                rw [e2, e4, e5]
              refine vc_X0_fillOnes_36 hg ⟨rr (by omega), rr (by omega), fun q => absurd q (by omega), fun _ => ⟨minAt_P hb hk4 hcp (by omega) (by omega) (by rw [e5]; omega) e2 e4, minAt_P hb hk4 hcp (by omega) (by omega) (by rw [e5]; omega) e2 e4, by omega, vc_X0_fillOnes_74 hg (ihc _ (fun z z0 => by rw [ru_ne z0]; exact hf' z z0) (fun l' c' x0 x1 x2 x3 => ?_) (fun c' x2 x3 => ?_))⟩⟩
              · rw [ru_eq, r1_ne (by omega)]; exact hs l' c' x0 x1 x2 x3
              · rw [ru_eq, ma, ma]
                by_cases e : c' = c
                · subst e; rw [r1_eq]
                · rw [r1_ne (by omega)]; exact hsc c' x2 (by omega)
            · intro m' hf' hs hsc
              refine vc_X0_fillOnes_36 hg ⟨rr (by omega), rr (by omega), fun _ => ihl m' hf' (fun l' c' x0 x1 x2 x3 => ?_), fun q => absurd (Int.le_refl _) q⟩
              by_cases e : l' = l
              · subst e; exact hsc c' x2 x3
              · exact hs l' c' x0 (by omega) x2 x3
          exact vc_X0_fillOnes_27 hg ⟨rr (by omega), rr (by omega), fun c => absurd c (by omega), fun _ => pc 0 (Int.le_refl _) (by omega) m' hf' hs (fun c' x0 x1 => absurd x0 (by omega))⟩
        · intro m' hf' hs
          have e5 : m' (g + 5) = m (g + 5) := hf' _ (by omega)
          have e6 : m' (g + 6) = μ (g + 6) := by rw [hf' _ (by omega), hf _ (by omega) (by omega) (by omega)]
          have hd : F_X10_determinant (g + 8) (k - 1) m' = detV (fun x => Fm μ g (μ (g + 4) (x / 3 + 1)) (m (g + 5) (x % 3)) - Fm μ g (μ (g + 4) 0) (m (g + 5) (x % 3))) (k - 1) := by
            refine detV_congr (by omega) (by omega) (fun x x0 x9 c1 c2 => ?_)
            have h := hs (x / 3 + 1) (x % 3) (by omega) (by omega) (by omega) c1
            have e : (x / 3 + 1 - 1) * 3 + x % 3 = x := by omega
            rw [e] at h
            exact h
          have er : F_X0_rankOf g (k - 1) m' = rkV (k - 1) (m (g + 5)) := by unfold F_X0_rankOf; rw [e5]
          have rb := rk_bd hp hN.2 (by omega) (by omega)
          -- one more is known
          have nx : ∀ x : Int, x = onV (Fm μ g) k (μ (g + 4)) (m (g + 5)) → V_X0_fillOnes R 125 [(0, kR g), (1, kI k), (3, kI i)] (updm m' (g + 7) (rkV (k - 1) (m (g + 5))) x) := by
            intro x hx
            have f2 : ∀ z : Int, z ≠ g + 5 → z ≠ g + 7 → z ≠ g + 8 → updm m' (g + 7) (rkV (k - 1) (m (g + 5))) x z = μ z := fun z z0 z1 z2 => by rw [ru_ne z1, hf' z z2]; exact hf z z0 z1 z2
            have t2 : ∀ q : Int → Int, Pk (k - 1) (μ g 1) q → cod (k - 1) q ≤ cod (k - 1) (m (g + 5)) → updm m' (g + 7) (rkV (k - 1) (m (g + 5))) x (g + 7) (rkV (k - 1) q) = onV (Fm μ g) k (μ (g + 4)) q := by
              intro q hq hc
              rw [ru_eq]
              by_cases e : rkV (k - 1) q = rkV (k - 1) (m (g + 5))
              · have e2 := rk_inj hq hp hN.2 (by omega) e
                rw [e, r1_eq, hx]
                exact onV_congr hk4.1 hk4.2 (fun a b a0 a1 b0 b1 => by rw [e2 b b0 b1])
              · rw [r1_ne e, hf' _ (by omega)]
                refine ht q hq (Or.inr ?_)
                rcases Int.lt_or_eq_of_le hc with c2 | c2
                · exact c2
                · exact absurd (rk_congr (cod_inj hq hp hN.2 (by omega) c2)) e
            have p2 : updm m' (g + 7) (rkV (k - 1) (m (g + 5))) x (g + 5) = m (g + 5) := by rw [ru_ne (by omega)]; exact e5
            generalize updm m' (g + 7) (rkV (k - 1) (m (g + 5))) x = m2 at f2 t2 p2
            have e1 : m2 g 1 = μ g 1 := by rw [f2 g (by omega) (by omega) (by omega)]
            refine vc_X0_fillOnes_125 hg ?_
            rw [e1]
            refine ⟨⟨Gm_rowPick hg, by omega, by omega, by rw [p2]; exact hp⟩, fun m3 r q3 => ?_⟩
            obtain ⟨q3, f3⟩ := q3
            have f3' : ∀ z : Int, z ≠ g + 5 → z ≠ g + 7 → z ≠ g + 8 → m3 z = μ z := fun z z0 z1 z2 => by rw [f3 z z0]; exact f2 z z0 z1 z2
            have e7 : m3 (g + 7) = m2 (g + 7) := f3 _ (by omega)
            rw [p2] at q3
            rcases q3 with ⟨hr, hx⟩ | ⟨hr, hx, he⟩
            · have hnx := nx_ok hp hN.2 (by omega) hx
              refine ih m3 r f3' (Or.inr hr) hnx.1 (by omega) (fun q hq hc => ?_)
              rw [e7]
              refine t2 q hq ?_
              rcases hc with hc | hc
              · omega
              · by_cases c2 : cod (k - 1) (m (g + 5)) < cod (k - 1) q
                · have := hnx.2.2 q hq c2; omega
                · omega
            · have hen := nx_end hp (by omega) (by omega) he
              refine ih m3 r f3' (Or.inl hr) (by rw [hx]; exact hp) (by rw [hx]; omega) (fun q hq _ => ?_)
              rw [e7]
              exact t2 q hq (hen q hq)
          refine vc_X0_fillOnes_27 hg ?_
          rw [er, hd, b_odd (show 0 ≤ k by omega) (by omega)]
          refine ⟨rr (by omega), rr (by omega), fun _ => ⟨⟨Gm_square hg, rr (by omega)⟩, ⟨hg, by omega, fun j j0 j1 => by
            rw [e5]
            have := Pk_at hp (by omega) j0 j1
            omega, fun a b a0 a1 b0 b1 => by rw [e6]; exact hb.2.2.2.2 a b a0 a1 b0 b1⟩, rr (by omega), fun c => ⟨rb, nx _ ?_⟩, fun c => ⟨rb, nx _ ?_⟩⟩, fun c => absurd (Int.le_refl _) c⟩
          · unfold onV; rw [if_neg c]; omega
          · unfold onV; rw [if_pos (Classical.byContradiction c)]; omega
      exact pl 1 (Int.le_refl _) hk4.1 m (fun _ _ => rfl) (fun l' c' x0 x1 => absurd x0 (by omega))
    · intro m an hf han hp hi ht
      have cb := cod_bd hp hN.2 (by omega) (by omega)
      omega
  have c0 : ∀ q : Int → Int, Pk (k - 1) (μ g 1) q → (1 : Int) = 0 ∨ cod (k - 1) q < cod (k - 1) (m1 (g + 5)) → m1 (g + 7) (rkV (k - 1) q) = onV (Fm μ g) k (μ (g + 4)) q := fun q hq hc => by
    have := pf.2 q hq
    omega
  have cb := cod_bd pf.1 hN.2 (by omega) (by omega)
  exact pa 0 (by omega) (by omega) m1 1 (fun z z0 z1 z2 => q1.2 z z0) (Or.inr rfl) pf.1 (by omega) c0
theorem ct_X0_fillOnes : Ct mX0_fillOnes 1 24 0 0 (nrmS S_X0_fillOnes) := by
  refine ct_vm (own := RX0) (by decide +kernel) rfl ?_ ?_
  · intro as μ Q hS
    unfold S_X0_fillOnes at hS
    split at hS
    · exact Nat.le_of_ble_eq_true rfl
    · exact hS.elim
  · intro as μ R hS
    unfold S_X0_fillOnes at hS
    split at hS
    · exact body_X0_fillOnes hS.1 hS.2
    · exact hS.elim
