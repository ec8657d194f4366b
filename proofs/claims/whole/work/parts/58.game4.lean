theorem Good_congr {F F' : Int → Int → Int} {n N k : Int} {cp cp' rp rp' : Int → Int} (h : Good F n N k cp rp) (k1 : 1 ≤ k) (k4 : k ≤ 4) (hcp : ∀ i, 0 ≤ i → i < k → 0 ≤ cp i ∧ cp i < n) (hrp : ∀ i, 0 ≤ i → i < k → 0 ≤ rp i ∧ rp i < N) (ec : ∀ i, 0 ≤ i → i < k → cp' i = cp i) (er : ∀ i, 0 ≤ i → i < k → rp' i = rp i) (hF : ∀ c r : Int, 0 ≤ c → c < n → 0 ≤ r → r < N → F' c r = F c r) : Good F' n N k cp' rp' ∧ kerS F' k cp' rp' = kerS F k cp rp ∧ kerD F' k cp' rp' = kerD F k cp rp ∧ ∀ i, 0 ≤ i → i < k → kerR F' k cp' rp' i = kerR F k cp rp i ∧ kerC F' k cp' rp' i = kerC F k cp rp i := by
  have hf : ∀ a b : Int, 0 ≤ a → a < k → 0 ≤ b → b < k → F' (cp' a) (rp' b) = F (cp a) (rp b) := fun a b a0 a1 b0 b1 => by
    rw [ec a a0 a1, er b b0 b1]
    exact hF _ _ (hcp a a0 a1).1 (hcp a a0 a1).2 (hrp b b0 b1).1 (hrp b b0 b1).2
  have eR : ∀ j, 0 ≤ j → kerR F' k cp' rp' j = kerR F k cp rp j := fun j j0 => kerR_congr k1 k4 j0 hf
  have eC : ∀ j, 0 ≤ j → kerC F' k cp' rp' j = kerC F k cp rp j := fun j j0 => kerC_congr k1 k4 j0 hf
  have eS : kerS F' k cp' rp' = kerS F k cp rp := sm_congr fun j j0 _ => eR j j0
  have eD : kerD F' k cp' rp' = kerD F k cp rp := sm_congr fun j j0 j1 => by
    rw [eR j j0, hf 0 j (Int.le_refl _) (by omega) j0 j1]
  obtain ⟨g1, g2, g3, g4, g5⟩ := h
  refine ⟨⟨by rw [eS]; exact g1, fun j j0 j1 => by rw [eS, eR j j0]; exact g2 j j0 j1, fun j j0 j1 => by rw [eS, eC j j0]; exact g3 j j0 j1, fun c c0 c1 => ?_, fun r r0 r1 => ?_⟩, eS, eD, fun i i0 _ => ⟨eR i i0, eC i i0⟩⟩
  · rw [eS, eD]
    refine Int.le_trans (Int.le_of_eq ?_) (g4 c c0 c1)
    exact sm_congr fun j j0 j1 => by rw [eR j j0, er j j0 j1, hF c _ c0 c1 (hrp j j0 j1).1 (hrp j j0 j1).2]
  · rw [eS, eD]
    refine Int.le_trans (g5 r r0 r1) (Int.le_of_eq ?_)
    exact sm_congr fun j j0 j1 => by rw [eC j j0, ec j j0 j1, hF _ r (hcp j j0 j1).1 (hcp j j0 j1).2 r0 r1]
/-- none of those before is a kernel -/
def Bef (F : Int → Int → Int) (n N k cc rc : Int) : Prop := ∀ (k' : Int) (cp' rp' : Int → Int), 1 ≤ k' → k' ≤ n → Pk k' n cp' → Pk k' N rp' → (k' < k ∨ (k' = k ∧ (cod k cp' < cc ∨ (cod k cp' = cc ∧ cod k rp' < rc)))) → ¬ Good F n N k' cp' rp'
def FirstK (F : Int → Int → Int) (n N k : Int) (cp rp : Int → Int) : Prop := (1 ≤ k ∧ k ≤ n) ∧ Pk k n cp ∧ Pk k N rp ∧ Good F n N k cp rp ∧ Bef F n N k (cod k cp) (cod k rp)
theorem first_uniq {F : Int → Int → Int} {n N k k' : Int} {cp cp' rp rp' : Int → Int} (n4 : n ≤ 4) (N24 : N ≤ 24) (h : FirstK F n N k cp rp) (h' : FirstK F n N k' cp' rp') : k = k' ∧ (∀ i, 0 ≤ i → i < k → cp i = cp' i) ∧ ∀ i, 0 ≤ i → i < k → rp i = rp' i := by
  obtain ⟨hk, hc, hr, hg, hb⟩ := h
  obtain ⟨hk', hc', hr', hg', hb'⟩ := h'
  have e : k = k' := by
    rcases Int.lt_trichotomy k k' with c | c | c
    · exact absurd hg (hb' k cp rp hk.1 hk.2 hc hr (Or.inl c))
    · exact c
    · exact absurd hg' (hb k' cp' rp' hk'.1 hk'.2 hc' hr' (Or.inl c))
  subst e
  have e1 : cod k cp = cod k cp' := by
    rcases Int.lt_trichotomy (cod k cp) (cod k cp') with c | c | c
    · exact absurd hg (hb' k cp rp hk.1 hk.2 hc hr (Or.inr ⟨rfl, Or.inl c⟩))
    · exact c
    · exact absurd hg' (hb k cp' rp' hk'.1 hk'.2 hc' hr' (Or.inr ⟨rfl, Or.inl c⟩))
  have e2 : cod k rp = cod k rp' := by
    rcases Int.lt_trichotomy (cod k rp) (cod k rp') with c | c | c
    · exact absurd hg (hb' k cp rp hk.1 hk.2 hc hr (Or.inr ⟨rfl, Or.inr ⟨e1, c⟩⟩))
    · exact c
    · exact absurd hg' (hb k cp' rp' hk'.1 hk'.2 hc' hr' (Or.inr ⟨rfl, Or.inr ⟨e1.symm, c⟩⟩))
  exact ⟨rfl, cod_inj hc hc' (by omega) (by omega) e1, cod_inj hr hr' N24 (by omega) e2⟩
/-- what a search leaves -/
def KerR (μ : Mem) (g : Int) (F : Int → Int → Int) (n N : Int) : Prop := (μ g 14 = 0 ∧ Bef F n N (n + 1) 0 0) ∨
  (FirstK F n N (μ g 14) (μ (g + 4)) (μ (g + 5)) ∧ μ g 15 = sgn (kerS F (μ g 14) (μ (g + 4)) (μ (g + 5))) * kerD F (μ g 14) (μ (g + 4)) (μ (g + 5)) ∧ μ g 16 = sgn (kerS F (μ g 14) (μ (g + 4)) (μ (g + 5))) * kerS F (μ g 14) (μ (g + 4)) (μ (g + 5)) ∧
    ∀ i : Int, 0 ≤ i → i < μ g 14 → μ (g + 9) i = sgn (kerS F (μ g 14) (μ (g + 4)) (μ (g + 5))) * kerC F (μ g 14) (μ (g + 4)) (μ (g + 5)) i ∧ μ (g + 10) i = sgn (kerS F (μ g 14) (μ (g + 4)) (μ (g + 5))) * kerR F (μ g 14) (μ (g + 4)) (μ (g + 5)) i)
def SFr (μ m : Mem) (g : Int) : Prop := (∀ z : Int, z ≠ g → (z < g + 4 ∨ g + 10 < z ∨ z = g + 6) → m z = μ z) ∧ ∀ f : Int, f < 13 → m g f = μ g f
def Held (F : Int → Int → Int) (n N a b : Int) : Prop := (0 ≤ b ∧ b ≤ 4214784000) ∧ (0 < b → (0 ≤ a ∧ a ≤ 2360279040000) ∧ ∃ (kk : Int) (q y : Int → Int), 0 ≤ kk ∧ (∀ j, 0 ≤ j → j < kk → 0 ≤ q j ∧ q j < N) ∧ (∀ j, 0 ≤ j → j < kk → 0 ≤ y j) ∧ sm y kk = b ∧ ∀ c, 0 ≤ c → c < n → sm (fun j => y j * F c (q j)) kk ≤ a)
def P_X0_search (g : Int) (μ : Mem) : Prop := GB μ g
def Q_X0_search (g : Int) (μ μ' : Mem) : Prop := SFr μ μ' g ∧ KerR μ' g (Fm μ g) (μ g 0) (μ g 1)
theorem GB_sfr {μ m : Mem} {g : Int} (h : GB μ g) (hf : SFr μ m g) : GB m g := GB_frame h (hf.2 0 (by omega)) (hf.2 1 (by omega)) (hf.1 _ (by omega) (by omega)) (hf.1 _ (by omega) (by omega))
def S_X0_search : S0t := fun as μ Q => match as with
  | [(2, x0)] => P_X0_search x0 μ ∧ ∀ (μ' : Mem) , Q_X0_search x0 μ μ'  → Q μ' none
  | _ => False
theorem mono_X0_search : Mono S_X0_search := by
  intro as μ Q Q' h hS
  unfold S_X0_search at hS ⊢
  split at hS
  · exact ⟨hS.1, fun μ' q => h _ _ (hS.2 _ q)⟩
  · exact hS.elim
def iX0_search : Inf := (kX0_search, fTX0, pTX0, cTX0, lTX0, sTX0, [(104, 1, 2, 0, S_X0_pickFirst), (108, 0, 1, 0, S_X0_fillOnes), (125, 1, 3, 0, S_X0_pickNext), (112, 0, 1, 0, S_X0_weighRows), (116, 0, 1, 0, S_X0_isLeastYet), (119, 0, 1, 0, S_X0_weighCells), (122, 0, 1, 0, S_X0_noRowIsLess)])
theorem ok_X0_search : infOK iX0_search mX0_search RX0 2 58 := ⟨kkX0_search, fTX0_ok, pTX0_ok _, cTX0_ok, lTX0_ok, sTX0_ok, c_cons ⟨mX0_pickFirst, 0, 0, ct_X0_pickFirst, mmX0_pickFirst, stX0_pickFirst, lkX0_104, ⟨by decide, by decide⟩, mono_X0_pickFirst⟩ (c_cons ⟨mX0_fillOnes, 1, 24, ct_X0_fillOnes, mmX0_fillOnes, vvX0_fillOnes, lkX0_108, ⟨by decide, by decide⟩, ⟨_, _, rfl⟩, by decide, mono_X0_fillOnes⟩ (c_cons ⟨mX0_pickNext, 0, 0, ct_X0_pickNext, mmX0_pickNext, stX0_pickNext, lkX0_125, ⟨by decide, by decide⟩, mono_X0_pickNext⟩ (c_cons ⟨mX0_weighRows, 1, 23, ct_X0_weighRows, mmX0_weighRows, vvX0_weighRows, lkX0_112, ⟨by decide, by decide⟩, ⟨_, _, rfl⟩, by decide, mono_X0_weighRows⟩ (c_cons ⟨mX0_isLeastYet, 1, 36, ct_X0_isLeastYet, mmX0_isLeastYet, vvX0_isLeastYet, lkX0_116, ⟨by decide, by decide⟩, ⟨_, _, rfl⟩, by decide, mono_X0_isLeastYet⟩ (c_cons ⟨mX0_weighCells, 1, 22, ct_X0_weighCells, mmX0_weighCells, vvX0_weighCells, lkX0_119, ⟨by decide, by decide⟩, ⟨_, _, rfl⟩, by decide, mono_X0_weighCells⟩ (c_cons ⟨mX0_noRowIsLess, 1, 25, ct_X0_noRowIsLess, mmX0_noRowIsLess, vvX0_noRowIsLess, lkX0_122, ⟨by decide, by decide⟩, ⟨_, _, rfl⟩, by decide, mono_X0_noRowIsLess⟩ (c_nil)))))))⟩
theorem mt_X0_search : mtOK [] RX0 2 58 := mt_nil
abbrev V_X0_search (R : Mem → Option AV → Prop) (pc : Nat) (lc : List (Nat × AV)) (μ : Mem) : Prop := VM mX0_search RX0 2 58 R pc lc [] μ
set_option maxRecDepth 20000 in
theorem vc_X0_search_0 {R : Mem → Option AV → Prop} {g : Int} {μ : Mem} (hg : isG g) (H : V_X0_search R 5 [(0, kR g)] (updm μ g 14 0)) : V_X0_search R 0 [(0, kR g)] μ := by
  refine vm_step2 mt_X0_search ok_X0_search [(5, [0]), (10, [0]), (12, [0, 1]), (28, [0, 1]), (32, [0, 1, 2, 3]), (47, [0, 1, 3]), (55, [0, 1, 3]), (61, [0, 1, 3, 4, 5])] 1000 ?_
  show isC g 0 ∧ 0 = 0 ∧ True ∧ V_X0_search R 5 [(0, kR g)] (updm μ g 14 0)
  exact ⟨isG_C hg, rfl, trivial, H⟩
set_option maxRecDepth 20000 in
theorem vc_X0_search_5 {R : Mem → Option AV → Prop} {g : Int} {μ : Mem} (hg : isG g) (H : V_X0_search R 10 [(0, kR g)] (updm μ g 18 0)) : V_X0_search R 5 [(0, kR g)] μ := by
  refine vm_step2 mt_X0_search ok_X0_search [(5, [0]), (10, [0]), (12, [0, 1]), (28, [0, 1]), (32, [0, 1, 2, 3]), (47, [0, 1, 3]), (55, [0, 1, 3]), (61, [0, 1, 3, 4, 5])] 1000 ?_
  show isC g 0 ∧ 1 = 1 ∧ True ∧ V_X0_search R 10 [(0, kR g)] (updm μ g 18 0)
  exact ⟨isG_C hg, rfl, trivial, H⟩
set_option maxRecDepth 20000 in
theorem vc_X0_search_10 {R : Mem → Option AV → Prop} {g : Int} {μ : Mem} (hg : isG g) (H : V_X0_search R 12 [(0, kR g), (1, kI 1)] μ) : V_X0_search R 10 [(0, kR g)] μ := by
  refine vm_step2 mt_X0_search ok_X0_search [(5, [0]), (10, [0]), (12, [0, 1]), (28, [0, 1]), (32, [0, 1, 2, 3]), (47, [0, 1, 3]), (55, [0, 1, 3]), (61, [0, 1, 3, 4, 5])] 1000 ?_
  show V_X0_search R 12 [(0, kR g), (1, kI 1)] μ
  exact H
set_option maxRecDepth 20000 in
theorem vc_X0_search_12 {R : Mem → Option AV → Prop} {k g : Int} {μ : Mem} (hg : isG g) (H : r32 k ∧ r32 (μ g 0) ∧ (((μ g 0) < k) → R μ none) ∧ (¬ ((μ g 0) < k) → P_X0_pickFirst (g + 4) k μ ∧ (∀ (μ1 : Mem), Q_X0_pickFirst (g + 4) k μ μ1 → V_X0_search R 28 [(0, kR g), (1, kI k)] μ1))) : V_X0_search R 12 [(0, kR g), (1, kI k)] μ := by
  refine vm_step2 mt_X0_search ok_X0_search [(5, [0]), (10, [0]), (12, [0, 1]), (28, [0, 1]), (32, [0, 1, 2, 3]), (47, [0, 1, 3]), (55, [0, 1, 3]), (61, [0, 1, 3, 4, 5])] 1000 ?_
  show isC g 0 ∧ (r32 k ∧ r32 (μ g 0)) ∧ (((μ g 0) < k) → R μ none) ∧ (¬ ((μ g 0) < k) → isC g 0 ∧ P_X0_pickFirst (g + 4) k μ ∧ (∀ (μ1 : Mem), Q_X0_pickFirst (g + 4) k μ μ1 → V_X0_search R 28 [(0, kR g), (1, kI k)] μ1))
  exact ⟨isG_C hg, ⟨⟨H.1, H.2.1⟩, fun hc4 => (H.2.2.1 hc4), fun hc4 => ⟨isG_C hg, ⟨(H.2.2.2 hc4).1, fun μ1 hq3 => ((H.2.2.2 hc4).2 μ1 hq3)⟩⟩⟩⟩
set_option maxRecDepth 20000 in
theorem vc_X0_search_28 {R : Mem → Option AV → Prop} {k g : Int} {μ : Mem} (hg : isG g) (H : V_X0_search R 32 [(0, kR g), (1, kI k), (2, kI 1), (3, kI 0)] μ) : V_X0_search R 28 [(0, kR g), (1, kI k)] μ := by
  refine vm_step2 mt_X0_search ok_X0_search [(5, [0]), (10, [0]), (12, [0, 1]), (28, [0, 1]), (32, [0, 1, 2, 3]), (47, [0, 1, 3]), (55, [0, 1, 3]), (61, [0, 1, 3, 4, 5])] 1000 ?_
  show V_X0_search R 32 [(0, kR g), (1, kI k), (2, kI 1), (3, kI 0)] μ
  exact H
set_option maxRecDepth 20000 in
theorem vc_X0_search_32 {R : Mem → Option AV → Prop} {k ac i g : Int} {μ : Mem} (hg : isG g) (H : r32 i ∧ (((1000000 : Int) ≤ i) → V_X0_search R 12 [(0, kR g), (1, kI (k + 1))] μ) ∧ (¬ ((1000000 : Int) ≤ i) → r32 ac ∧ ((ac = 0) → V_X0_search R 12 [(0, kR g), (1, kI (k + 1))] μ) ∧ (¬ (ac = 0) → P_X0_fillOnes g k μ ∧ (∀ (μ5 : Mem), Q_X0_fillOnes g k μ μ5 → V_X0_search R 47 [(0, kR g), (1, kI k), (3, kI i)] μ5)))) : V_X0_search R 32 [(0, kR g), (1, kI k), (2, kI ac), (3, kI i)] μ := by
  refine vm_step2 mt_X0_search ok_X0_search [(5, [0]), (10, [0]), (12, [0, 1]), (28, [0, 1]), (32, [0, 1, 2, 3]), (47, [0, 1, 3]), (55, [0, 1, 3]), (61, [0, 1, 3, 4, 5])] 1000 ?_
  show (r32 i ∧ r32 (1000000 : Int)) ∧ (((1000000 : Int) ≤ i) → V_X0_search R 12 [(0, kR g), (1, kI (k + 1))] μ) ∧ (¬ ((1000000 : Int) ≤ i) → r32 ac ∧ ((ac = 0) → V_X0_search R 12 [(0, kR g), (1, kI (k + 1))] μ) ∧ (¬ (ac = 0) → isC g 0 ∧ P_X0_fillOnes g k μ ∧ (∀ (μ5 : Mem), Q_X0_fillOnes g k μ μ5 → V_X0_search R 47 [(0, kR g), (1, kI k), (3, kI i)] μ5)))
  exact ⟨⟨H.1, by unfold r32; omega⟩, fun hc9 => (H.2.1 hc9), fun hc9 => ⟨(H.2.2 hc9).1, fun hc8 => ((H.2.2 hc9).2.1 hc8), fun hc8 => ⟨isG_C hg, ((H.2.2 hc9).2.2 hc8).1, fun μ5 hq7 => (((H.2.2 hc9).2.2 hc8).2 μ5 hq7)⟩⟩⟩
set_option maxRecDepth 20000 in
theorem vc_X0_search_47 {R : Mem → Option AV → Prop} {k i g : Int} {μ : Mem} (hg : isG g) (H : P_X0_pickFirst (g + 5) k μ ∧ (∀ (μ10 : Mem), Q_X0_pickFirst (g + 5) k μ μ10 → V_X0_search R 55 [(0, kR g), (1, kI k), (3, kI i)] μ10)) : V_X0_search R 47 [(0, kR g), (1, kI k), (3, kI i)] μ := by
  refine vm_step2 mt_X0_search ok_X0_search [(5, [0]), (10, [0]), (12, [0, 1]), (28, [0, 1]), (32, [0, 1, 2, 3]), (47, [0, 1, 3]), (55, [0, 1, 3]), (61, [0, 1, 3, 4, 5])] 1000 ?_
  show isC g 0 ∧ P_X0_pickFirst (g + 5) k μ ∧ (∀ (μ10 : Mem), Q_X0_pickFirst (g + 5) k μ μ10 → V_X0_search R 55 [(0, kR g), (1, kI k), (3, kI i)] μ10)
  exact ⟨isG_C hg, ⟨H.1, fun μ10 hq12 => (H.2 μ10 hq12)⟩⟩
set_option maxRecDepth 20000 in
theorem vc_X0_search_55 {R : Mem → Option AV → Prop} {k i g : Int} {μ : Mem} (hg : isG g) (H : V_X0_search R 61 [(0, kR g), (1, kI k), (3, kI i), (4, kI 1), (5, kI 0)] μ) : V_X0_search R 55 [(0, kR g), (1, kI k), (3, kI i)] μ := by
  refine vm_step2 mt_X0_search ok_X0_search [(5, [0]), (10, [0]), (12, [0, 1]), (28, [0, 1]), (32, [0, 1, 2, 3]), (47, [0, 1, 3]), (55, [0, 1, 3]), (61, [0, 1, 3, 4, 5])] 1000 ?_
  show V_X0_search R 61 [(0, kR g), (1, kI k), (3, kI i), (4, kI 1), (5, kI 0)] μ
  exact H
set_option maxRecDepth 20000 in
theorem vc_X0_search_61 {R : Mem → Option AV → Prop} {k i ar j g : Int} {μ : Mem} (hg : isG g) (H : r32 j ∧ (((1000000 : Int) ≤ j) → P_X0_pickNext (g + 4) k (μ g 0) μ ∧ (∀ (μ13 : Mem) (rv14 : Int), Q_X0_pickNext (g + 4) k (μ g 0) μ μ13 rv14 → V_X0_search R 32 [(0, kR g), (1, kI k), (2, kI rv14), (3, kI (i + 1))] μ13)) ∧ (¬ ((1000000 : Int) ≤ j) → r32 ar ∧ ((ar = 0) → P_X0_pickNext (g + 4) k (μ g 0) μ ∧ (∀ (μ16 : Mem) (rv17 : Int), Q_X0_pickNext (g + 4) k (μ g 0) μ μ16 rv17 → V_X0_search R 32 [(0, kR g), (1, kI k), (2, kI rv17), (3, kI (i + 1))] μ16)) ∧ (¬ (ar = 0) → P_X0_weighRows g k μ ∧ (∀ (μ19 : Mem) (rv20 : Int), Q_X0_weighRows g k μ μ19 rv20 → r32 rv20 ∧ ((rv20 = 0) → P_X0_pickNext (g + 5) k (μ19 g 1) μ19 ∧ (∀ (μ22 : Mem) (rv23 : Int), Q_X0_pickNext (g + 5) k (μ19 g 1) μ19 μ22 rv23 → V_X0_search R 61 [(0, kR g), (1, kI k), (3, kI i), (4, kI rv23), (5, kI (j + 1))] μ22)) ∧ (¬ (rv20 = 0) → P_X0_isLeastYet g k μ19 ∧ (∀ (μ25 : Mem) (rv26 : Int), Q_X0_isLeastYet g k μ19 μ25 rv26 → r32 rv26 ∧ ((rv26 = 0) → P_X0_pickNext (g + 5) k (μ25 g 1) μ25 ∧ (∀ (μ28 : Mem) (rv29 : Int), Q_X0_pickNext (g + 5) k (μ25 g 1) μ25 μ28 rv29 → V_X0_search R 61 [(0, kR g), (1, kI k), (3, kI i), (4, kI rv29), (5, kI (j + 1))] μ28)) ∧ (¬ (rv26 = 0) → P_X0_weighCells g k μ25 ∧ (∀ (μ31 : Mem) (rv32 : Int), Q_X0_weighCells g k μ25 μ31 rv32 → r32 rv32 ∧ ((rv32 = 0) → P_X0_pickNext (g + 5) k (μ31 g 1) μ31 ∧ (∀ (μ34 : Mem) (rv35 : Int), Q_X0_pickNext (g + 5) k (μ31 g 1) μ31 μ34 rv35 → V_X0_search R 61 [(0, kR g), (1, kI k), (3, kI i), (4, kI rv35), (5, kI (j + 1))] μ34)) ∧ (¬ (rv32 = 0) → P_X0_noRowIsLess g k μ31 ∧ r32 (F_X0_noRowIsLess g k μ31) ∧ (((F_X0_noRowIsLess g k μ31) = 0) → P_X0_pickNext (g + 5) k (μ31 g 1) μ31 ∧ (∀ (μ37 : Mem) (rv38 : Int), Q_X0_pickNext (g + 5) k (μ31 g 1) μ31 μ37 rv38 → V_X0_search R 61 [(0, kR g), (1, kI k), (3, kI i), (4, kI rv38), (5, kI (j + 1))] μ37)) ∧ (¬ ((F_X0_noRowIsLess g k μ31) = 0) → R (updm μ31 g 14 k) none)))))))))) : V_X0_search R 61 [(0, kR g), (1, kI k), (3, kI i), (4, kI ar), (5, kI j)] μ := by
  refine vm_step2 mt_X0_search ok_X0_search [(5, [0]), (10, [0]), (12, [0, 1]), (28, [0, 1]), (32, [0, 1, 2, 3]), (47, [0, 1, 3]), (55, [0, 1, 3]), (61, [0, 1, 3, 4, 5])] 1000 ?_
  show (r32 j ∧ r32 (1000000 : Int)) ∧ (((1000000 : Int) ≤ j) → isC g 0 ∧ isC g 0 ∧ P_X0_pickNext (g + 4) k (μ g 0) μ ∧ (∀ (μ13 : Mem) (rv14 : Int), Q_X0_pickNext (g + 4) k (μ g 0) μ μ13 rv14 → V_X0_search R 32 [(0, kR g), (1, kI k), (2, kI rv14), (3, kI (i + 1))] μ13)) ∧ (¬ ((1000000 : Int) ≤ j) → r32 ar ∧ ((ar = 0) → isC g 0 ∧ isC g 0 ∧ P_X0_pickNext (g + 4) k (μ g 0) μ ∧ (∀ (μ16 : Mem) (rv17 : Int), Q_X0_pickNext (g + 4) k (μ g 0) μ μ16 rv17 → V_X0_search R 32 [(0, kR g), (1, kI k), (2, kI rv17), (3, kI (i + 1))] μ16)) ∧ (¬ (ar = 0) → isC g 0 ∧ P_X0_weighRows g k μ ∧ (∀ (μ19 : Mem) (rv20 : Int), Q_X0_weighRows g k μ μ19 rv20 → r32 rv20 ∧ ((rv20 = 0) → isC g 0 ∧ isC g 0 ∧ P_X0_pickNext (g + 5) k (μ19 g 1) μ19 ∧ (∀ (μ22 : Mem) (rv23 : Int), Q_X0_pickNext (g + 5) k (μ19 g 1) μ19 μ22 rv23 → V_X0_search R 61 [(0, kR g), (1, kI k), (3, kI i), (4, kI rv23), (5, kI (j + 1))] μ22)) ∧ (¬ (rv20 = 0) → isC g 0 ∧ P_X0_isLeastYet g k μ19 ∧ (∀ (μ25 : Mem) (rv26 : Int), Q_X0_isLeastYet g k μ19 μ25 rv26 → r32 rv26 ∧ ((rv26 = 0) → isC g 0 ∧ isC g 0 ∧ P_X0_pickNext (g + 5) k (μ25 g 1) μ25 ∧ (∀ (μ28 : Mem) (rv29 : Int), Q_X0_pickNext (g + 5) k (μ25 g 1) μ25 μ28 rv29 → V_X0_search R 61 [(0, kR g), (1, kI k), (3, kI i), (4, kI rv29), (5, kI (j + 1))] μ28)) ∧ (¬ (rv26 = 0) → isC g 0 ∧ P_X0_weighCells g k μ25 ∧ (∀ (μ31 : Mem) (rv32 : Int), Q_X0_weighCells g k μ25 μ31 rv32 → r32 rv32 ∧ ((rv32 = 0) → isC g 0 ∧ isC g 0 ∧ P_X0_pickNext (g + 5) k (μ31 g 1) μ31 ∧ (∀ (μ34 : Mem) (rv35 : Int), Q_X0_pickNext (g + 5) k (μ31 g 1) μ31 μ34 rv35 → V_X0_search R 61 [(0, kR g), (1, kI k), (3, kI i), (4, kI rv35), (5, kI (j + 1))] μ34)) ∧ (¬ (rv32 = 0) → isC g 0 ∧ P_X0_noRowIsLess g k μ31 ∧ r32 (F_X0_noRowIsLess g k μ31) ∧ (((F_X0_noRowIsLess g k μ31) = 0) → isC g 0 ∧ isC g 0 ∧ P_X0_pickNext (g + 5) k (μ31 g 1) μ31 ∧ (∀ (μ37 : Mem) (rv38 : Int), Q_X0_pickNext (g + 5) k (μ31 g 1) μ31 μ37 rv38 → V_X0_search R 61 [(0, kR g), (1, kI k), (3, kI i), (4, kI rv38), (5, kI (j + 1))] μ37)) ∧ (¬ ((F_X0_noRowIsLess g k μ31) = 0) → isC g 0 ∧ 0 = 0 ∧ True ∧ R (updm μ31 g 14 k) none)))))))))
  exact ⟨⟨H.1, by unfold r32; omega⟩, fun hc45 => ⟨isG_C hg, ⟨isG_C hg, ⟨(H.2.1 hc45).1, fun μ13 rv14 hq15 => ((H.2.1 hc45).2 μ13 rv14 hq15)⟩⟩⟩, fun hc45 => ⟨(H.2.2 hc45).1, fun hc44 => ⟨isG_C hg, ⟨isG_C hg, ⟨((H.2.2 hc45).2.1 hc44).1, fun μ16 rv17 hq18 => (((H.2.2 hc45).2.1 hc44).2 μ16 rv17 hq18)⟩⟩⟩, fun hc44 => ⟨isG_C hg, ((H.2.2 hc45).2.2 hc44).1, fun μ19 rv20 hq21 => ⟨(((H.2.2 hc45).2.2 hc44).2 μ19 rv20 hq21).1, fun hc43 => ⟨isG_C hg, ⟨isG_C hg, ⟨((((H.2.2 hc45).2.2 hc44).2 μ19 rv20 hq21).2.1 hc43).1, fun μ22 rv23 hq24 => (((((H.2.2 hc45).2.2 hc44).2 μ19 rv20 hq21).2.1 hc43).2 μ22 rv23 hq24)⟩⟩⟩, fun hc43 => ⟨isG_C hg, ((((H.2.2 hc45).2.2 hc44).2 μ19 rv20 hq21).2.2 hc43).1, fun μ25 rv26 hq27 => ⟨(((((H.2.2 hc45).2.2 hc44).2 μ19 rv20 hq21).2.2 hc43).2 μ25 rv26 hq27).1, fun hc42 => ⟨isG_C hg, ⟨isG_C hg, ⟨((((((H.2.2 hc45).2.2 hc44).2 μ19 rv20 hq21).2.2 hc43).2 μ25 rv26 hq27).2.1 hc42).1, fun μ28 rv29 hq30 => (((((((H.2.2 hc45).2.2 hc44).2 μ19 rv20 hq21).2.2 hc43).2 μ25 rv26 hq27).2.1 hc42).2 μ28 rv29 hq30)⟩⟩⟩, fun hc42 => ⟨isG_C hg, ((((((H.2.2 hc45).2.2 hc44).2 μ19 rv20 hq21).2.2 hc43).2 μ25 rv26 hq27).2.2 hc42).1, fun μ31 rv32 hq33 => ⟨(((((((H.2.2 hc45).2.2 hc44).2 μ19 rv20 hq21).2.2 hc43).2 μ25 rv26 hq27).2.2 hc42).2 μ31 rv32 hq33).1, fun hc41 => ⟨isG_C hg, ⟨isG_C hg, ⟨((((((((H.2.2 hc45).2.2 hc44).2 μ19 rv20 hq21).2.2 hc43).2 μ25 rv26 hq27).2.2 hc42).2 μ31 rv32 hq33).2.1 hc41).1, fun μ34 rv35 hq36 => (((((((((H.2.2 hc45).2.2 hc44).2 μ19 rv20 hq21).2.2 hc43).2 μ25 rv26 hq27).2.2 hc42).2 μ31 rv32 hq33).2.1 hc41).2 μ34 rv35 hq36)⟩⟩⟩, fun hc41 => ⟨isG_C hg, ((((((((H.2.2 hc45).2.2 hc44).2 μ19 rv20 hq21).2.2 hc43).2 μ25 rv26 hq27).2.2 hc42).2 μ31 rv32 hq33).2.2 hc41).1, ⟨((((((((H.2.2 hc45).2.2 hc44).2 μ19 rv20 hq21).2.2 hc43).2 μ25 rv26 hq27).2.2 hc42).2 μ31 rv32 hq33).2.2 hc41).2.1, fun hc40 => ⟨isG_C hg, ⟨isG_C hg, ⟨(((((((((H.2.2 hc45).2.2 hc44).2 μ19 rv20 hq21).2.2 hc43).2 μ25 rv26 hq27).2.2 hc42).2 μ31 rv32 hq33).2.2 hc41).2.2.1 hc40).1, fun μ37 rv38 hq39 => ((((((((((H.2.2 hc45).2.2 hc44).2 μ19 rv20 hq21).2.2 hc43).2 μ25 rv26 hq27).2.2 hc42).2 μ31 rv32 hq33).2.2 hc41).2.2.1 hc40).2 μ37 rv38 hq39)⟩⟩⟩, fun hc40 => ⟨isG_C hg, rfl, trivial, (((((((((H.2.2 hc45).2.2 hc44).2 μ19 rv20 hq21).2.2 hc43).2 μ25 rv26 hq27).2.2 hc42).2 μ31 rv32 hq33).2.2 hc41).2.2.2 hc40)⟩⟩⟩⟩⟩⟩⟩⟩⟩⟩⟩
theorem body_X0_search {g : Int} {μ : Mem} {R : Mem → Option AV → Prop} (h : P_X0_search g μ) (hR : ∀ μ' : Mem, Q_X0_search g μ μ' → R μ' none) : V_X0_search R 0 [(0, kR g)] μ := by
  have hb : GB μ g := h
  have hg := hb.1
  have hg2 := isG_two hg
  have hn := hb.2.1
  have hN := hb.2.2.1
  generalize hF : Fm μ g = F at *
  unfold Q_X0_search at hR
  rw [hF] at hR
  generalize hne : μ g 0 = n at *
  generalize hNe : μ g 1 = N at *
  refine vc_X0_search_0 hg (vc_X0_search_5 hg (vc_X0_search_10 hg ?_))
  have i0 : SFr μ (updm (updm μ g 14 0) g 18 0) g := ⟨fun z z0 z1 => by rw [ru_ne z0, ru_ne z0], fun f hf => by rw [ru_eq, r1_ne (by omega), ru_eq, r1_ne (by omega)]⟩
  have i14 : updm (updm μ g 14 0) g 18 0 g 14 = 0 := by rw [ru_eq, r1_ne (by omega), ru_eq, r1_eq]
  have iH : Held F n N (updm (updm μ g 14 0) g 18 0 g 17) (updm (updm μ g 14 0) g 18 0 g 18) := by
    have e : updm (updm μ g 14 0) g 18 0 g 18 = 0 := by rw [ru_eq, r1_eq]
    rw [e]
    exact ⟨by omega, fun c => absurd c (by omega)⟩
  generalize updm (updm μ g 14 0) g 18 0 = m0 at i0 i14 iH
  have pk : ∀ k : Int, 1 ≤ k → k ≤ n + 1 → ∀ m : Mem, SFr μ m g → m g 14 = 0 → Held F n N (m g 17) (m g 18) → Bef F n N k 0 0 → V_X0_search R 12 [(0, kR g), (1, kI k)] m := by
    refine up_ind (P := fun k => ∀ m : Mem, SFr μ m g → m g 14 = 0 → Held F n N (m g 17) (m g 18) → Bef F n N k 0 0 → V_X0_search R 12 [(0, kR g), (1, kI k)] m) ?_ ?_
    · intro k k1 kn ihk m hf h14 hh hbef
      have e0 : m g 0 = n := by rw [hf.2 0 (by omega)]; exact hne
      refine vc_X0_search_12 hg ?_
      rw [e0]
      refine ⟨rr (by omega), rr (by omega), fun c => absurd c (by omega), fun _ => ⟨⟨Gm_cellPick hg, by omega⟩, fun m1 q1 => vc_X0_search_28 hg ?_⟩⟩
      have pf1 := pk_first (p := m1 (g + 4)) (n := n) (show 0 ≤ k by omega) (by omega) (by omega) q1.1
      have f1 : SFr μ m1 g := ⟨fun z z0 z1 => by rw [q1.2 z (by omega)]; exact hf.1 z z0 z1, fun f hff => by rw [q1.2 g (by omega)]; exact hf.2 f hff⟩
      -- the choices of cellars
      have pi : ∀ i : Int, 0 ≤ i → i ≤ 1000000 → ∀ (m : Mem) (ac : Int), SFr μ m g → m g 14 = 0 → Held F n N (m g 17) (m g 18) → (ac = 0 ∨ ac = 1) → Pk k n (m (g + 4)) → i ≤ cod k (m (g + 4)) + 1 - ac → (ac = 1 → Bef F n N k (cod k (m (g + 4))) 0) → (ac = 0 → Bef F n N (k + 1) 0 0) → V_X0_search R 32 [(0, kR g), (1, kI k), (2, kI ac), (3, kI i)] m := by
        refine up_ind (P := fun i => ∀ (m : Mem) (ac : Int), SFr μ m g → m g 14 = 0 → Held F n N (m g 17) (m g 18) → (ac = 0 ∨ ac = 1) → Pk k n (m (g + 4)) → i ≤ cod k (m (g + 4)) + 1 - ac → (ac = 1 → Bef F n N k (cod k (m (g + 4))) 0) → (ac = 0 → Bef F n N (k + 1) 0 0) → V_X0_search R 32 [(0, kR g), (1, kI k), (2, kI ac), (3, kI i)] m) ?_ ?_
        · intro i i0 i1 ihi m ac hf h14 hh hac hcp hi hb1 hb0
          refine vc_X0_search_32 hg ⟨rr (by omega), fun c => absurd c (by omega), fun _ => ⟨rr (by omega), fun c => ihk m hf h14 hh (hb0 c), fun c => ?_⟩⟩
          have hbef := hb1 (by omega)
          have cbc := cod_bd hcp (by omega) (by omega) (by omega)
          have e0 : m g 0 = n := by rw [hf.2 0 (by omega)]; exact hne
          have e1 : m g 1 = N := by rw [hf.2 1 (by omega)]; exact hNe
          have eF : Fm m g = F := by rw [Fm_frame (hf.1 _ (by omega) (by omega))]; exact hF
          have hbm := GB_sfr hb hf
          generalize hcpf : m (g + 4) = cpf at *
          refine ⟨⟨hbm, by rw [e0]; omega, by rw [e0, hcpf]; exact hcp⟩, fun m5 q5 => vc_X0_search_47 hg ⟨⟨Gm_rowPick hg, by omega⟩, fun m10 q10 => vc_X0_search_55 hg ?_⟩⟩
          unfold Q_X0_fillOnes at q5
          rw [e1, eF, hcpf] at q5
          have f10 : ∀ z : Int, z ≠ g + 5 → z ≠ g + 7 → z ≠ g + 8 → m10 z = m z := fun z z0 z1 z2 => by rw [q10.2 z z0]; exact q5.1 z z0 z1 z2
          have s10 : SFr μ m10 g := ⟨fun z z0 z1 => by rw [f10 z (by omega) (by omega) (by omega)]; exact hf.1 z z0 z1, fun f hff => by rw [f10 g (by omega) (by omega) (by omega)]; exact hf.2 f hff⟩
          have pf10 := pk_first (p := m10 (g + 5)) (n := N) (show 0 ≤ k by omega) (by omega) (by omega) q10.1
          -- the choices of rows
          have pj : ∀ j : Int, 0 ≤ j → j ≤ 1000000 → ∀ (m : Mem) (ar : Int), SFr μ m g → m g 14 = 0 → Held F n N (m g 17) (m g 18) → m (g + 4) = cpf → (∀ q : Int → Int, Pk (k - 1) N q → m (g + 7) (rkV (k - 1) q) = onV F k cpf q) → (ar = 0 ∨ ar = 1) → Pk k N (m (g + 5)) → j ≤ cod k (m (g + 5)) + 1 - ar → (ar = 1 → Bef F n N k (cod k cpf) (cod k (m (g + 5)))) → (ar = 0 → Bef F n N k (cod k cpf) 400000) → V_X0_search R 61 [(0, kR g), (1, kI k), (3, kI i), (4, kI ar), (5, kI j)] m := by
            refine up_ind (P := fun j => ∀ (m : Mem) (ar : Int), SFr μ m g → m g 14 = 0 → Held F n N (m g 17) (m g 18) → m (g + 4) = cpf → (∀ q : Int → Int, Pk (k - 1) N q → m (g + 7) (rkV (k - 1) q) = onV F k cpf q) → (ar = 0 ∨ ar = 1) → Pk k N (m (g + 5)) → j ≤ cod k (m (g + 5)) + 1 - ar → (ar = 1 → Bef F n N k (cod k cpf) (cod k (m (g + 5)))) → (ar = 0 → Bef F n N k (cod k cpf) 400000) → V_X0_search R 61 [(0, kR g), (1, kI k), (3, kI i), (4, kI ar), (5, kI j)] m) ?_ ?_
            · intro j j0 j1 ihj m ar hf h14 hh h4 ht har hrp hj hb1 hb0
              have e0 : m g 0 = n := by rw [hf.2 0 (by omega)]; exact hne
              refine vc_X0_search_61 hg ⟨rr (by omega), fun c => absurd c (by omega), fun _ => ⟨rr (by omega), fun c => ?_, fun c => ?_⟩⟩
              · have hbf := hb0 c
                rw [e0]
                refine ⟨⟨Gm_cellPick hg, by omega, by omega, by rw [h4]; exact hcp⟩, fun m16 r17 q16 => ?_⟩
                obtain ⟨q16, f16⟩ := q16
                have s16 : SFr μ m16 g := ⟨fun z z0 z1 => by rw [f16 z (by omega)]; exact hf.1 z z0 z1, fun f hff => by rw [f16 g (by omega)]; exact hf.2 f hff⟩
                have eg : m16 g = m g := f16 g (by omega)
                rw [h4] at q16
                rcases q16 with ⟨hr, hx⟩ | ⟨hr, hx, he⟩
                · have hnx := nx_ok hcp (by omega) (by omega) hx
                  refine ihi m16 r17 s16 (by rw [eg]; exact h14) (by rw [eg]; exact hh) (Or.inr hr) hnx.1 (by omega) (fun _ k' cp' rp' a1 a2 a3 a4 a5 => ?_) (fun q => by omega)
                  rcases a5 with a5 | ⟨a5, a6⟩
                  · exact hbf k' cp' rp' a1 a2 a3 a4 (Or.inl a5)
                  · subst a5
                    have cb := cod_bd a4 hN.2 (by omega) (by omega)
                    refine hbf k' cp' rp' a1 a2 a3 a4 (Or.inr ⟨rfl, ?_⟩)
                    by_cases c2 : cod k' cpf < cod k' cp'
                    · have := hnx.2.2 cp' a3 c2; omega
                    · omega
                · have hen := nx_end hcp (by omega) (by omega) he
                  refine ihi m16 r17 s16 (by rw [eg]; exact h14) (by rw [eg]; exact hh) (Or.inl hr) (by rw [hx]; exact hcp) (by rw [hx]; omega) (fun q => by omega) (fun _ k' cp' rp' a1 a2 a3 a4 a5 => ?_)
                  by_cases a6 : k' = k
                  · subst a6
                    have cb := cod_bd a4 hN.2 (by omega) (by omega)
                    have := hen cp' a3
                    exact hbf k' cp' rp' a1 a2 a3 a4 (Or.inr ⟨rfl, by omega⟩)
                  · refine hbf k' cp' rp' a1 a2 a3 a4 (Or.inl ?_)
                    rcases a5 with a5 | ⟨a5, a7⟩
                    · omega
                    · subst a5
                      have cb := cod_bd a3 (show n ≤ 24 by omega) (by omega) (by omega)
                      have cb2 := cod_bd a4 hN.2 (by omega) (by omega)
                      omega
              · have hbf := hb1 (by omega)
                have cbr := cod_bd hrp hN.2 (by omega) (by omega)
                have e1 : m g 1 = N := by rw [hf.2 1 (by omega)]; exact hNe
                have eF : Fm m g = F := by rw [Fm_frame (hf.1 _ (by omega) (by omega))]; exact hF
                have hbm := GB_sfr hb hf
                have hcpi : ∀ i, 0 ≤ i → i < k → 0 ≤ cpf i ∧ cpf i < n := fun i i0 i1 => by
                  have := Pk_at hcp (by omega) i0 i1; omega
                have hrpi : ∀ i, 0 ≤ i → i < k → 0 ≤ m (g + 5) i ∧ m (g + 5) i < N := fun i i0 i1 => by
                  have := Pk_at hrp (by omega) i0 i1; omega
                have hFb : ∀ c r : Int, 0 ≤ c → c < 4 → 0 ≤ r → r < 24 → 0 ≤ F c r ∧ F c r ≤ 560 := fun c r c0 c1 r0 r1 => by
                  have := hbm.2.2.2.1 c r c0 c1 r0 r1
                  rw [eF] at this
                  exact this
                have hkr : ∀ i, 0 ≤ i → i < k → -1053696000 ≤ kerR F k cpf (m (g + 5)) i ∧ kerR F k cpf (m (g + 5)) i ≤ 1053696000 := fun i i0 i1 => kerR_bd k1 (by omega) i0 (fun a b a0 a1 b0 b1 => by
                  have h1 := hcpi a a0 a1
                  have h2 := hrpi b b0 b1
                  exact hFb _ _ (by omega) (by omega) (by omega) (by omega))
                -- the next rows
                have cont : ∀ m' : Mem, SFr μ m' g → m' g 14 = 0 → Held F n N (m' g 17) (m' g 18) → m' (g + 4) = cpf → m' (g + 5) = m (g + 5) → m' (g + 7) = m (g + 7) → ¬ Good F n N k cpf (m (g + 5)) → P_X0_pickNext (g + 5) k (m' g 1) m' ∧ ∀ (μ22 : Mem) (r23 : Int), Q_X0_pickNext (g + 5) k (m' g 1) m' μ22 r23 → V_X0_search R 61 [(0, kR g), (1, kI k), (3, kI i), (4, kI r23), (5, kI (j + 1))] μ22 := by
                  intro m' hf' h14' hh' h4' h5' h7' hng
                  have e1' : m' g 1 = N := by rw [hf'.2 1 (by omega)]; exact hNe
                  rw [e1']
                  refine ⟨⟨Gm_rowPick hg, by omega, by omega, by rw [h5']; exact hrp⟩, fun m2 r q2 => ?_⟩
                  obtain ⟨q2, f2⟩ := q2
                  have s2 : SFr μ m2 g := ⟨fun z z0 z1 => by rw [f2 z (by omega)]; exact hf'.1 z z0 z1, fun f hff => by rw [f2 g (by omega)]; exact hf'.2 f hff⟩
                  have eg : m2 g = m' g := f2 g (by omega)
                  have all : ∀ (rc : Int), (∀ rp', Pk k N rp' → cod k rp' < rc → cod k rp' ≤ cod k (m (g + 5))) → Bef F n N k (cod k cpf) rc := by
                    intro rc hrc k' cp' rp' a1 a2 a3 a4 a5
                    rcases a5 with a5 | ⟨a5, a6⟩
                    · exact hbf k' cp' rp' a1 a2 a3 a4 (Or.inl a5)
                    · subst a5
                      rcases a6 with a6 | ⟨a6, a7⟩
                      · exact hbf k' cp' rp' a1 a2 a3 a4 (Or.inr ⟨rfl, Or.inl a6⟩)
                      · have := hrc rp' a4 a7
                        by_cases c2 : cod k' rp' < cod k' (m (g + 5))
                        · exact hbf k' cp' rp' a1 a2 a3 a4 (Or.inr ⟨rfl, Or.inr ⟨a6, c2⟩⟩)
                        · intro hgd
                          have x1 := cod_inj a3 hcp (by omega) (by omega) a6
                          have x2 := cod_inj a4 hrp hN.2 (by omega) (by omega)
                          refine hng (Good_congr hgd a1 (by omega) (fun i i0 i1 => ?_) (fun i i0 i1 => ?_) (fun i i0 i1 => (x1 i i0 i1).symm) (fun i i0 i1 => (x2 i i0 i1).symm) (fun _ _ _ _ _ _ => rfl)).1
                          · have := Pk_at a3 (by omega) i0 i1; omega
                          · have := Pk_at a4 (by omega) i0 i1; omega
                  rw [h5'] at q2
                  rcases q2 with ⟨hr, hx⟩ | ⟨hr, hx, he⟩
                  · have hnx := nx_ok hrp hN.2 (by omega) hx
                    refine ihj m2 r s2 (by rw [eg]; exact h14') (by rw [eg]; exact hh') (by rw [f2 _ (by omega)]; exact h4') (fun q hq => by rw [f2 _ (by omega), h7']; exact ht q hq) (Or.inr hr) hnx.1 (by omega) (fun _ => all _ (fun rp' hp' hl => ?_)) (fun q => by omega)
                    by_cases c2 : cod k (m (g + 5)) < cod k rp'
                    · have := hnx.2.2 rp' hp' c2; omega
                    · omega
                  · have hen := nx_end hrp (by omega) (by omega) he
                    exact ihj m2 r s2 (by rw [eg]; exact h14') (by rw [eg]; exact hh') (by rw [f2 _ (by omega)]; exact h4') (fun q hq => by rw [f2 _ (by omega), h7']; exact ht q hq) (Or.inl hr) (by rw [hx]; exact hrp) (by rw [hx]; omega) (fun q => by omega) (fun _ => all _ (fun rp' hp' _ => hen rp' hp'))
                refine ⟨⟨hbm, by omega, by rw [e0, h4]; exact hcp, by rw [e1]; exact hrp, fun q hq => by rw [e1] at hq; rw [eF, h4]; exact ht q hq⟩, fun m19 r20 q19 => ?_⟩
                unfold Q_X0_weighRows at q19
                rw [eF, h4] at q19
                obtain ⟨z19, g19, q19⟩ := q19
                have s19 : SFr μ m19 g := ⟨fun z z0 z1 => by rw [z19 z z0 (by omega)]; exact hf.1 z z0 z1, fun f hff => by rw [g19 f (by omega) (by omega)]; exact hf.2 f hff⟩
                have x4 : m19 (g + 4) = cpf := by rw [z19 _ (by omega) (by omega)]; exact h4
                have x5 : m19 (g + 5) = m (g + 5) := z19 _ (by omega) (by omega)
                have x7 : m19 (g + 7) = m (g + 7) := z19 _ (by omega) (by omega)
                have x14 : m19 g 14 = 0 := by rw [g19 14 (by omega) (by omega)]; exact h14
                have xh : Held F n N (m19 g 17) (m19 g 18) := by rw [g19 17 (by omega) (by omega), g19 18 (by omega) (by omega)]; exact hh
                rcases q19 with ⟨hr, hno⟩ | ⟨hr, hok, h13, h16, hsh⟩
                · subst hr
                  refine ⟨rr (by omega), fun _ => cont m19 s19 x14 xh x4 x5 x7 (fun q => hno ⟨q.1, q.2.1⟩), fun q => absurd rfl q⟩
                subst hr
                refine ⟨rr (by omega), fun q => absurd q (by omega), fun _ => ?_⟩
                have y0 : m19 g 0 = n := by rw [s19.2 0 (by omega)]; exact hne
                have y1 : m19 g 1 = N := by rw [s19.2 1 (by omega)]; exact hNe
                have yF : Fm m19 g = F := by rw [Fm_frame (s19.1 _ (by omega) (by omega))]; exact hF
                have hb19 := GB_sfr hb s19
                generalize hS : kerS F k cpf (m (g + 5)) = S at *
                have sS : 0 < sgn S * S := by
                  have := hok.1
                  rw [hS] at this
                  unfold sgn
                  split <;> omega
                have shb : ∀ i : Int, 0 ≤ i → i < k → 0 ≤ m19 (g + 10) i ∧ m19 (g + 10) i ≤ 1053696000 := fun i i0 i1 => by
                  rw [hsh i i0 i1]
                  have h1 := hok.2 i i0 i1
                  rw [hS] at h1
                  have h2 := hkr i i0 i1
                  refine ⟨h1, ?_⟩
                  unfold sgn
                  split <;> omega
                have sms : sm (m19 (g + 10)) k = sgn S * S := by
                  have e : sm (m19 (g + 10)) k = sm (fun i => sgn S * kerR F k cpf (m (g + 5)) i) k := sm_congr hsh
                  rw [e, sm_mulL (by omega)]
                  show sgn S * kerS F k cpf (m (g + 5)) = _
                  rw [hS]
                have smb : sgn S * S ≤ 4214784000 := by
                  have h1 := sm_bd (f := m19 (g + 10)) (n := k) (c := 0) (d := 1053696000) shb (by omega)
                  have h2 : k * 1053696000 ≤ 4 * 1053696000 := Int.mul_le_mul_of_nonneg_right (by omega) (by omega)
                  omega
                refine ⟨⟨hb19, by omega, by rw [y0, x4]; exact hcp, by rw [y1, x5]; exact hrp, shb, by rw [h16]; omega, fun c => by have := (xh.2 c).1; omega, by have := xh.1; omega⟩, fun m25 r26 q25 => ?_⟩
                -- what a cellar is worth
                have wc : ∀ c : Int, F_X0_worthOfCell g c k m19 = sm (fun j => sgn S * kerR F k cpf (m (g + 5)) j * F c (m (g + 5) j)) k := fun c => by
                  unfold F_X0_worthOfCell
                  rw [yF, x5]
                  exact sm_congr fun j j0 j1 => by rw [hsh j j0 j1]
                have w0 : F_X0_worthOfCell g (cpf 0) k m19 = sgn S * kerD F k cpf (m (g + 5)) := by
                  rw [wc]
                  unfold kerD
                  rw [← sm_mulL (by omega)]
                  exact sm_congr fun j _ _ => by rw [Int.mul_assoc]
                have w0b : 0 ≤ sgn S * kerD F k cpf (m (g + 5)) ∧ sgn S * kerD F k cpf (m (g + 5)) ≤ 2360279040000 := by
                  rw [← w0]
                  have hc0 := hcpi 0 (Int.le_refl _) (by omega)
                  exact worth_bd (B := 1053696000) (by omega) (by omega) (by omega) shb (fun i i0 i1 => by
                    rw [yF, x5]
                    have := hrpi i i0 i1
                    exact hFb _ _ (by omega) (by omega) (by omega) (by omega))
                obtain ⟨z25, g25, h15, q25⟩ := q25
                rw [x4] at h15 q25
                rw [w0] at h15 q25
                have s25 : SFr μ m25 g := ⟨fun z z0 z1 => by rw [z25 z z0]; exact s19.1 z z0 z1, fun f hff => by rw [g25 f (by omega) (by omega) (by omega)]; exact s19.2 f hff⟩
                have u4 : m25 (g + 4) = cpf := by rw [z25 _ (by omega)]; exact x4
                have u5 : m25 (g + 5) = m (g + 5) := by rw [z25 _ (by omega)]; exact x5
                have u7 : m25 (g + 7) = m (g + 7) := by rw [z25 _ (by omega)]; exact x7
                have u10 : m25 (g + 10) = m19 (g + 10) := z25 _ (by omega)
                have u14 : m25 g 14 = 0 := by rw [g25 14 (by omega) (by omega) (by omega)]; exact x14
                rcases q25 with ⟨hr, h17, h18, hno⟩ | ⟨hr, h17, h18, hle⟩
                · subst hr
                  refine ⟨rr (by omega), fun _ => cont m25 s25 u14 (by rw [h17, h18]; exact xh) u4 u5 u7 (fun q => ?_), fun q => absurd rfl q⟩
                  rcases hno with ⟨c, hc, hlt⟩ | ⟨hpos, hlt⟩
                  · rw [y0] at hc
                    have := q.2.2.2.1 c hc.1 hc.2
                    rw [hS, ← wc c] at this
                    omega
                  · obtain ⟨_, kk, q', y', b1, b2, b3, b4, b5⟩ := xh.2 hpos
                    have := good_dual q k1 (by omega) hcpi b1 b2 b3 b5
                    rw [b4, hS, ← h16, Int.mul_comm (m19 g 18)] at this
                    omega
                subst hr
                refine ⟨rr (by omega), fun q => absurd q (by omega), fun _ => ?_⟩
                have hh25 : Held F n N (m25 g 17) (m25 g 18) := by
                  rw [h17, h18, h16]
                  refine ⟨by omega, fun _ => ⟨w0b, k, m (g + 5), m19 (g + 10), by omega, hrpi, fun j j0 j1 => (shb j j0 j1).1, sms, fun c c0 c1 => ?_⟩⟩
                  have := hle c c0 (by rw [y0]; exact c1)
                  unfold F_X0_worthOfCell at this
                  rw [yF, x5] at this
                  exact this
                have v0 : m25 g 0 = n := by rw [s25.2 0 (by omega)]; exact hne
                have v1 : m25 g 1 = N := by rw [s25.2 1 (by omega)]; exact hNe
                have vF : Fm m25 g = F := by rw [Fm_frame (s25.1 _ (by omega) (by omega))]; exact hF
                have v13 : m25 g 13 = if S < 0 then 1 else 0 := by rw [g25 13 (by omega) (by omega) (by omega)]; exact h13
                have vt : trn (m25 g 13) = sgn S := by
                  rw [v13]
                  unfold trn sgn
                  by_cases c : S < 0
                  · rw [if_pos c, if_pos c, if_pos rfl]
                  · rw [if_neg c, if_neg c, if_neg (by omega)]
                have v16 : m25 g 16 = sgn S * S := by rw [g25 16 (by omega) (by omega) (by omega)]; exact h16
                refine ⟨⟨GB_sfr hb s25, by omega, by rw [v0, u4]; exact hcp, by rw [v1, u5]; exact hrp, by rw [v13]; split <;> omega⟩, fun m31 r3 q31 => ?_⟩
                unfold Q_X0_weighCells at q31
                rw [vt, vF, u4, u5] at q31
                obtain ⟨z31, q31⟩ := q31
                have s31 : SFr μ m31 g := ⟨fun z z0 z1 => by rw [z31 z (by omega) (by omega)]; exact s25.1 z z0 z1, fun f hff => by rw [z31 g (by omega) (by omega)]; exact s25.2 f hff⟩
                have t4 : m31 (g + 4) = cpf := by rw [z31 _ (by omega) (by omega)]; exact u4
                have t5 : m31 (g + 5) = m (g + 5) := by rw [z31 _ (by omega) (by omega)]; exact u5
                have t7 : m31 (g + 7) = m (g + 7) := by rw [z31 _ (by omega) (by omega)]; exact u7
                have t10 : m31 (g + 10) = m19 (g + 10) := by rw [z31 _ (by omega) (by omega)]; exact u10
                have tg : m31 g = m25 g := z31 g (by omega) (by omega)
                rcases q31 with ⟨hr, ii, hii, hlt⟩ | ⟨hr, hce⟩
                · subst hr
                  refine ⟨rr (by omega), fun _ => cont m31 s31 (by rw [tg]; exact u14) (by rw [tg]; exact hh25) t4 t5 t7 (fun q => ?_), fun q => absurd rfl q⟩
                  have := q.2.2.1 ii hii.1 hii.2
                  rw [hS] at this
                  omega
                subst hr
                refine ⟨rr (by omega), fun q => absurd q (by omega), fun _ => ?_⟩
                have wF : Fm m31 g = F := by rw [Fm_frame (s31.1 _ (by omega) (by omega))]; exact hF
                have hkc : ∀ i, 0 ≤ i → i < k → -1053696000 ≤ kerC F k cpf (m (g + 5)) i ∧ kerC F k cpf (m (g + 5)) i ≤ 1053696000 := fun i i0 i1 => kerC_bd k1 (by omega) i0 (fun a b a0 a1 b0 b1 => by
                  have h1 := hcpi a a0 a1
                  have h2 := hrpi b b0 b1
                  exact hFb _ _ (by omega) (by omega) (by omega) (by omega))
                have wr : ∀ r : Int, F_X0_worthOfRow g r k m31 = sm (fun i => sgn S * kerC F k cpf (m (g + 5)) i * F (cpf i) r) k := fun r => by
                  unfold F_X0_worthOfRow
                  rw [wF, t4]
                  exact sm_congr fun j j0 j1 => by rw [(hce j j0 j1).2]
                have g0 : m31 g 1 = N := by rw [s31.2 1 (by omega)]; exact hNe
                have g15 : m31 g 15 = sgn S * kerD F k cpf (m (g + 5)) := by rw [tg]; exact h15
                refine ⟨⟨hg, by omega, by rw [g0]; omega, fun i i0 i1 => by rw [t4]; have := hcpi i i0 i1; omega, fun c r c0 c1 r0 r1 => by
                  rw [wF]
                  have := hFb c r c0 c1 r0 r1
                  exact rr (by omega), by rw [g15]; exact rl (by omega), fun r r0 r1 => ?_⟩, ?_⟩
                · rw [wr]
                  rw [g0] at r1
                  have h := worth_bd (f := fun i => sgn S * kerC F k cpf (m (g + 5)) i) (x := fun i => F (cpf i) r) (k := k) (B := 1053696000) (by omega) (by omega) (by omega) (fun i i0 i1 => by
                    have h1 := (hce i i0 i1).1
                    have h2 := hkc i i0 i1
                    refine ⟨h1, ?_⟩
                    show sgn S * kerC F k cpf (m (g + 5)) i ≤ _
                    unfold sgn
                    split <;> omega) (fun i i0 i1 => by
                    have := hcpi i i0 i1
                    exact hFb _ _ (by omega) (by omega) (by omega) (by omega))
                  exact rl (by omega)
                unfold F_X0_noRowIsLess
                rw [g0, g15]
                by_cases hall : allV (fun r => decide (sgn S * kerD F k cpf (m (g + 5)) ≤ F_X0_worthOfRow g r k m31)) N = true
                · rw [if_pos hall]
                  refine ⟨rr (by omega), fun q => absurd q (by omega), fun _ => hR _ ⟨⟨fun z z0 z1 => by rw [ru_ne z0]; exact s31.1 z z0 z1, fun f hff => by rw [ru_eq, r1_ne (by omega)]; exact s31.2 f hff⟩, Or.inr ?_⟩⟩
                  have r4 : updm m31 g 14 k (g + 4) = cpf := by rw [ru_ne (by omega)]; exact t4
                  have r5 : updm m31 g 14 k (g + 5) = m (g + 5) := by rw [ru_ne (by omega)]; exact t5
                  have r14 : updm m31 g 14 k g 14 = k := by rw [ru_eq, r1_eq]
                  rw [r4, r5, r14, hS]
                  refine ⟨⟨⟨k1, by omega⟩, hcp, hrp, ⟨by rw [hS]; exact hok.1 ∘ (fun q => by rw [hS]; exact q), fun j j0 j1 => by rw [hS]; have := hok.2 j j0 j1; rw [hS] at this; exact this, fun j j0 j1 => by rw [hS]; exact (hce j j0 j1).1, fun c c0 c1 => ?_, fun r r0 r1 => ?_⟩, hbf⟩, ?_, ?_, fun i i0 i1 => ⟨?_, ?_⟩⟩
                  · rw [hS, ← wc c]
                    have := hle c c0 (by rw [y0]; exact c1)
                    omega
                  · rw [hS, ← wr r]
                    exact of_decide_eq_true ((allV_ok (by omega)).mp hall r r0 r1)
                  · rw [ru_eq, r1_ne (by omega)]; exact g15
                  · rw [ru_eq, r1_ne (by omega), tg]; exact v16
                  · rw [ru_ne (by omega)]; exact (hce i i0 i1).2
                  · rw [ru_ne (by omega), t10]; exact hsh i i0 i1
                · rw [if_neg hall]
                  refine ⟨rr (by omega), fun _ => ?_, fun q => absurd rfl q⟩
                  have := cont m31 s31 (by rw [tg]; exact u14) (by rw [tg]; exact hh25) t4 t5 t7 (fun q => hall ((allV_ok (by omega)).mpr fun r r0 r1 => decide_eq_true (by
                    have := q.2.2.2.2 r r0 r1
                    rw [hS, ← wr r] at this
                    exact this)))
                  rw [g0] at this
                  exact this
            · intro m ar hf h14 hh h4 ht har hrp hj hb1 hb0
              have cbr := cod_bd hrp hN.2 (by omega) (by omega)
              omega
          refine pj 0 (Int.le_refl _) (by omega) m10 1 s10 (by rw [f10 g (by omega) (by omega) (by omega)]; exact h14) (by rw [f10 g (by omega) (by omega) (by omega)]; exact hh) (by rw [f10 _ (by omega) (by omega) (by omega)]; exact hcpf) (fun q hq => ?_) (Or.inr rfl) pf10.1 ?_ (fun _ k' cp' rp' a1 a2 a3 a4 a5 => ?_) (fun q => absurd q (by omega))
          · rw [q10.2 _ (by omega)]; exact q5.2 q hq
          · have := cod_bd pf10.1 hN.2 (by omega) (by omega)
            omega
          · refine hbef k' cp' rp' a1 a2 a3 a4 ?_
            rcases a5 with a5 | ⟨a5, a6⟩
            · exact Or.inl a5
            · subst a5
              have := pf10.2 rp' a4
              exact Or.inr ⟨rfl, by omega⟩
        · intro m ac hf h14 hh hac hcp hi hb1 hb0
          have cb := cod_bd hcp (by omega) (by omega) (by omega)
          omega
      have cb := cod_bd pf1.1 (show n ≤ 24 by omega) (by omega) (by omega)
      refine pi 0 (Int.le_refl _) (by omega) m1 1 f1 (by rw [q1.2 g (by omega)]; exact h14) (by rw [q1.2 g (by omega)]; exact hh) (Or.inr rfl) pf1.1 (by omega) (fun _ k' cp' rp' a1 a2 a3 a4 a5 => ?_) (fun q => absurd q (by omega))
      refine hbef k' cp' rp' a1 a2 a3 a4 ?_
      rcases a5 with a5 | ⟨a5, a6⟩
      · exact Or.inl a5
      · subst a5
        have := pf1.2 cp' a3
        have := cod_bd a4 hN.2 (by omega) (by omega)
        omega
    · intro m hf h14 hh hbef
      have e0 : m g 0 = n := by rw [hf.2 0 (by omega)]; exact hne
      refine vc_X0_search_12 hg ?_
      rw [e0]
      exact ⟨rr (by omega), rr (by omega), fun _ => hR m ⟨hf, Or.inl ⟨h14, hbef⟩⟩, fun c => absurd (show n < n + 1 by omega) c⟩
  refine pk 1 (Int.le_refl _) (by omega) m0 i0 i14 iH (fun k' cp' rp' a1 a2 a3 a4 a5 => ?_)
  rcases a5 with a5 | ⟨a5, a6⟩
  · omega
  · have := cod_bd a3 (show n ≤ 24 by omega) (by omega) (by omega)
    have := cod_bd a4 hN.2 (by omega) (by omega)
    subst a5
    omega
theorem ct_X0_search : Ct mX0_search 2 58 0 0 (nrmS S_X0_search) := by
  refine ct_vm (own := RX0) (by decide +kernel) rfl ?_ ?_
  · intro as μ Q hS
    unfold S_X0_search at hS
    split at hS
    · exact Nat.le_of_ble_eq_true rfl
    · exact hS.elim
  · intro as μ R hS
    unfold S_X0_search at hS
    split at hS
    · exact body_X0_search hS.1 hS.2
    · exact hS.elim
