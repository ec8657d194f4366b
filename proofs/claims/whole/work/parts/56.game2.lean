/-- what holds of a game that is being played -/
def GB (μ : Mem) (g : Int) : Prop := isG g ∧ (1 ≤ μ g 0 ∧ μ g 0 ≤ 4) ∧ (μ g 0 ≤ μ g 1 ∧ μ g 1 ≤ 24) ∧ (∀ c r : Int, 0 ≤ c → c < 4 → 0 ≤ r → r < 24 → 0 ≤ Fm μ g c r ∧ Fm μ g c r ≤ 560) ∧ ChR μ g
theorem Fm_frame {μ m : Mem} {g : Int} (h : m (g + 2) = μ (g + 2)) : Fm m g = Fm μ g := by unfold Fm; rw [h]
theorem GB_frame {μ m : Mem} {g : Int} (h : GB μ g) (h0 : m g 0 = μ g 0) (h1 : m g 1 = μ g 1) (h2 : m (g + 2) = μ (g + 2)) (h6 : m (g + 6) = μ (g + 6)) : GB m g := by
  obtain ⟨a, b, c, d, e⟩ := h
  unfold GB ChR
  rw [Fm_frame h2, h0, h1, h6]
  exact ⟨a, b, c, d, e⟩
theorem worth_bd {f x : Int → Int} {k B : Int} (k0 : 0 ≤ k) (k4 : k ≤ 4) (hB : 0 ≤ B) (hf : ∀ i, 0 ≤ i → i < k → 0 ≤ f i ∧ f i ≤ B) (hx : ∀ i, 0 ≤ i → i < k → 0 ≤ x i ∧ x i ≤ 560) : 0 ≤ sm (fun i => f i * x i) k ∧ sm (fun i => f i * x i) k ≤ 4 * (B * 560) := by
  have h := sm_bd (f := fun i => f i * x i) (n := k) (c := 0) (d := B * 560) (fun i i0 i1 => mul_bd (hf i i0 i1).1 (hf i i0 i1).2 (hx i i0 i1).1 (hx i i0 i1).2) k0
  have h2 : k * (B * 560) ≤ 4 * (B * 560) := Int.mul_le_mul_of_nonneg_right k4 (by omega)
  omega
theorem worth_frame {μ m : Mem} {g c k : Int} (h2 : m (g + 2) = μ (g + 2)) (h5 : m (g + 5) = μ (g + 5)) (h10 : m (g + 10) = μ (g + 10)) : F_X0_worthOfCell g c k m = F_X0_worthOfCell g c k μ := by
  unfold F_X0_worthOfCell Fm
  rw [h2, h5, h10]
def P_X0_isLeastYet (g k : Int) (μ : Mem) : Prop := GB μ g ∧ (1 ≤ k ∧ k ≤ 4) ∧ Pk k (μ g 0) (μ (g + 4)) ∧ Pk k (μ g 1) (μ (g + 5)) ∧ (∀ i : Int, 0 ≤ i → i < k → 0 ≤ μ (g + 10) i ∧ μ (g + 10) i ≤ 1053696000) ∧ (1 ≤ μ g 16 ∧ μ g 16 ≤ 9223372036854775807) ∧ (0 < μ g 18 → 0 ≤ μ g 17 ∧ μ g 17 ≤ 9223372036854775807) ∧ (0 ≤ μ g 18 ∧ μ g 18 ≤ 9223372036854775807)
def Q_X0_isLeastYet (g k : Int) (μ μ' : Mem) (r : Int) : Prop := (∀ z : Int, z ≠ g → μ' z = μ z) ∧ (∀ f : Int, f ≠ 15 → f ≠ 17 → f ≠ 18 → μ' g f = μ g f) ∧ μ' g 15 = F_X0_worthOfCell g (μ (g + 4) 0) k μ ∧
  ((r = 0 ∧ μ' g 17 = μ g 17 ∧ μ' g 18 = μ g 18 ∧ ((∃ c : Int, (0 ≤ c ∧ c < μ g 0) ∧ F_X0_worthOfCell g (μ (g + 4) 0) k μ < F_X0_worthOfCell g c k μ) ∨ (0 < μ g 18 ∧ μ g 17 * μ g 16 < F_X0_worthOfCell g (μ (g + 4) 0) k μ * μ g 18))) ∨
   (r = 1 ∧ μ' g 17 = F_X0_worthOfCell g (μ (g + 4) 0) k μ ∧ μ' g 18 = μ g 16 ∧ ∀ c : Int, 0 ≤ c → c < μ g 0 → F_X0_worthOfCell g c k μ ≤ F_X0_worthOfCell g (μ (g + 4) 0) k μ))
def S_X0_isLeastYet : S0t := fun as μ Q => match as with
  | [(2, x0), (0, x1)] => P_X0_isLeastYet x0 x1 μ ∧ ∀ (μ' : Mem) (r : Int), Q_X0_isLeastYet x0 x1 μ μ' r → Q μ' (some (kI r))
  | _ => False
theorem mono_X0_isLeastYet : Mono S_X0_isLeastYet := by
  intro as μ Q Q' h hS
  unfold S_X0_isLeastYet at hS ⊢
  split at hS
  · exact ⟨hS.1, fun μ' r q => h _ _ (hS.2 _ _ q)⟩
  · exact hS.elim
def iX0_isLeastYet : Inf := (kX0_isLeastYet, fTX0, pTX0, cTX0, lTX0, sTX0, [(151, 0, 2, 0, S_X0_worthOfCell), (160, 1, 4, 0, S_X10_isLess)])
theorem ok_X0_isLeastYet : infOK iX0_isLeastYet mX0_isLeastYet RX0 1 36 := ⟨kkX0_isLeastYet, fTX0_ok, pTX0_ok _, cTX0_ok, lTX0_ok, sTX0_ok, c_cons ⟨mX0_worthOfCell, 0, 0, ct_X0_worthOfCell, mmX0_worthOfCell, vvX0_worthOfCell, lkX0_151, ⟨by decide, by decide⟩, ⟨_, _, rfl⟩, by decide, mono_X0_worthOfCell⟩ (c_cons ⟨mX10_isLess, 0, 0, ct_X10_isLess, mmX10_isLess, stX10_isLess, lkX0_160, ⟨by decide, by decide⟩, mono_X10_isLess⟩ (c_nil))⟩
theorem mt_X0_isLeastYet : mtOK [] RX0 1 36 := mt_nil
abbrev V_X0_isLeastYet (R : Mem → Option AV → Prop) (pc : Nat) (lc : List (Nat × AV)) (μ : Mem) : Prop := VM mX0_isLeastYet RX0 1 36 R pc lc [] μ
set_option maxRecDepth 20000 in
theorem vc_X0_isLeastYet_0 {R : Mem → Option AV → Prop} {k g : Int} {μ : Mem} (hg : isG g) (H : P_X0_worthOfCell g (μ (g + 4) 0) k μ ∧ V_X0_isLeastYet R 15 [(0, kR g), (1, kI k)] (updm μ g 15 (F_X0_worthOfCell g (μ (g + 4) 0) k μ))) : V_X0_isLeastYet R 0 [(0, kR g), (1, kI k)] μ := by
  refine vm_step2 mt_X0_isLeastYet ok_X0_isLeastYet [(15, [0, 1]), (17, [0, 1, 2]), (88, [0]), (96, [])] 1000 ?_
  show isC g 0 ∧ inA (g + 4) 0 (0 : Int) ∧ isC g 0 ∧ P_X0_worthOfCell g (μ (g + 4) 0) k μ ∧ isC g 0 ∧ 1 = 1 ∧ True ∧ V_X0_isLeastYet R 15 [(0, kR g), (1, kI k)] (updm μ g 15 (F_X0_worthOfCell g (μ (g + 4) 0) k μ))
  exact ⟨isG_C hg, ⟨isArr.in (Gm_cellPick hg) (by omega) (by omega), ⟨isG_C hg, H.1, ⟨isG_C hg, rfl, trivial, H.2⟩⟩⟩⟩
set_option maxRecDepth 20000 in
theorem vc_X0_isLeastYet_15 {R : Mem → Option AV → Prop} {k g : Int} {μ : Mem} (hg : isG g) (H : V_X0_isLeastYet R 17 [(0, kR g), (1, kI k), (2, kI 0)] μ) : V_X0_isLeastYet R 15 [(0, kR g), (1, kI k)] μ := by
  refine vm_step2 mt_X0_isLeastYet ok_X0_isLeastYet [(15, [0, 1]), (17, [0, 1, 2]), (88, [0]), (96, [])] 1000 ?_
  show V_X0_isLeastYet R 17 [(0, kR g), (1, kI k), (2, kI 0)] μ
  exact H
set_option maxRecDepth 20000 in
theorem vc_X0_isLeastYet_17 {R : Mem → Option AV → Prop} {k c g : Int} {μ : Mem} (hg : isG g) (H : r32 c ∧ r32 (μ g 0) ∧ (((μ g 0) ≤ c) → r64 (μ g 18) ∧ (((μ g 18) ≤ (0 : Int)) → V_X0_isLeastYet R 88 [(0, kR g)] (updm μ g 17 (μ g 15))) ∧ (¬ ((μ g 18) ≤ (0 : Int)) → P_X10_isLess (μ g 17) (μ g 18) (μ g 15) (μ g 16) μ ∧ r32 (F_X10_isLess (μ g 17) (μ g 18) (μ g 15) (μ g 16) μ) ∧ (((F_X10_isLess (μ g 17) (μ g 18) (μ g 15) (μ g 16) μ) = 0) → V_X0_isLeastYet R 88 [(0, kR g)] (updm μ g 17 (μ g 15))) ∧ (¬ ((F_X10_isLess (μ g 17) (μ g 18) (μ g 15) (μ g 16) μ) = 0) → R μ (some (kI 0))))) ∧ (¬ ((μ g 0) ≤ c) → P_X0_worthOfCell g c k μ ∧ r64 (F_X0_worthOfCell g c k μ) ∧ r64 (μ g 15) ∧ (((F_X0_worthOfCell g c k μ) ≤ (μ g 15)) → V_X0_isLeastYet R 17 [(0, kR g), (1, kI k), (2, kI (c + 1))] μ) ∧ (¬ ((F_X0_worthOfCell g c k μ) ≤ (μ g 15)) → R μ (some (kI 0))))) : V_X0_isLeastYet R 17 [(0, kR g), (1, kI k), (2, kI c)] μ := by
  refine vm_step2 mt_X0_isLeastYet ok_X0_isLeastYet [(15, [0, 1]), (17, [0, 1, 2]), (88, [0]), (96, [])] 1000 ?_
  show isC g 0 ∧ (r32 c ∧ r32 (μ g 0)) ∧ (((μ g 0) ≤ c) → isC g 0 ∧ (r64 (μ g 18) ∧ r64 (0 : Int)) ∧ r32 (lcm3 (μ g 18) (0 : Int)) ∧ ((lcm3 (μ g 18) (0 : Int) ≤ 0) → isC g 0 ∧ isC g 0 ∧ 1 = 1 ∧ True ∧ V_X0_isLeastYet R 88 [(0, kR g)] (updm μ g 17 (μ g 15))) ∧ (¬ (lcm3 (μ g 18) (0 : Int) ≤ 0) → isC g 0 ∧ isC g 0 ∧ isC g 0 ∧ isC g 0 ∧ P_X10_isLess (μ g 17) (μ g 18) (μ g 15) (μ g 16) μ ∧ r32 (F_X10_isLess (μ g 17) (μ g 18) (μ g 15) (μ g 16) μ) ∧ (((F_X10_isLess (μ g 17) (μ g 18) (μ g 15) (μ g 16) μ) = 0) → isC g 0 ∧ isC g 0 ∧ 1 = 1 ∧ True ∧ V_X0_isLeastYet R 88 [(0, kR g)] (updm μ g 17 (μ g 15))) ∧ (¬ ((F_X10_isLess (μ g 17) (μ g 18) (μ g 15) (μ g 16) μ) = 0) → (0 ≤ (0 : Int) ∧ (0 : Int) ≤ 1) ∧ R μ (some (kI 0))))) ∧ (¬ ((μ g 0) ≤ c) → isC g 0 ∧ P_X0_worthOfCell g c k μ ∧ isC g 0 ∧ (r64 (F_X0_worthOfCell g c k μ) ∧ r64 (μ g 15)) ∧ r32 (lcm3 (F_X0_worthOfCell g c k μ) (μ g 15)) ∧ ((lcm3 (F_X0_worthOfCell g c k μ) (μ g 15) ≤ 0) → V_X0_isLeastYet R 17 [(0, kR g), (1, kI k), (2, kI (c + 1))] μ) ∧ (¬ (lcm3 (F_X0_worthOfCell g c k μ) (μ g 15) ≤ 0) → (0 ≤ (0 : Int) ∧ (0 : Int) ≤ 1) ∧ R μ (some (kI 0))))
  exact ⟨isG_C hg, ⟨⟨H.1, H.2.1⟩, fun hc4 => ⟨isG_C hg, ⟨⟨(H.2.2.1 hc4).1, by unfold r64; omega⟩, lcm3_r _ _, fun hc2 => ⟨isG_C hg, ⟨isG_C hg, rfl, trivial, ((H.2.2.1 hc4).2.1 (lcm_le.mp hc2))⟩⟩, fun hc2 => ⟨isG_C hg, ⟨isG_C hg, ⟨isG_C hg, ⟨isG_C hg, ⟨((H.2.2.1 hc4).2.2 (fun q => hc2 (lcm_le.mpr q))).1, ⟨((H.2.2.1 hc4).2.2 (fun q => hc2 (lcm_le.mpr q))).2.1, fun hc1 => ⟨isG_C hg, ⟨isG_C hg, rfl, trivial, (((H.2.2.1 hc4).2.2 (fun q => hc2 (lcm_le.mpr q))).2.2.1 hc1)⟩⟩, fun hc1 => ⟨⟨by omega, by omega⟩, (((H.2.2.1 hc4).2.2 (fun q => hc2 (lcm_le.mpr q))).2.2.2 hc1)⟩⟩⟩⟩⟩⟩⟩⟩⟩, fun hc4 => ⟨isG_C hg, (H.2.2.2 hc4).1, ⟨isG_C hg, ⟨⟨(H.2.2.2 hc4).2.1, (H.2.2.2 hc4).2.2.1⟩, lcm3_r _ _, fun hc3 => ((H.2.2.2 hc4).2.2.2.1 (lcm_le.mp hc3)), fun hc3 => ⟨⟨by omega, by omega⟩, ((H.2.2.2 hc4).2.2.2.2 (fun q => hc3 (lcm_le.mpr q)))⟩⟩⟩⟩⟩⟩
set_option maxRecDepth 20000 in
theorem vc_X0_isLeastYet_88 {R : Mem → Option AV → Prop} {g : Int} {μ : Mem} (hg : isG g) (H : V_X0_isLeastYet R 96 [] (updm μ g 18 (μ g 16))) : V_X0_isLeastYet R 88 [(0, kR g)] μ := by
  refine vm_step2 mt_X0_isLeastYet ok_X0_isLeastYet [(15, [0, 1]), (17, [0, 1, 2]), (88, [0]), (96, [])] 1000 ?_
  show isC g 0 ∧ isC g 0 ∧ 1 = 1 ∧ True ∧ V_X0_isLeastYet R 96 [] (updm μ g 18 (μ g 16))
  exact ⟨isG_C hg, ⟨isG_C hg, rfl, trivial, H⟩⟩
set_option maxRecDepth 20000 in
theorem vc_X0_isLeastYet_96 {R : Mem → Option AV → Prop} {g : Int} {μ : Mem} (hg : isG g) (H : R μ (some (kI 1))) : V_X0_isLeastYet R 96 [] μ := by
  refine vm_step2 mt_X0_isLeastYet ok_X0_isLeastYet [(15, [0, 1]), (17, [0, 1, 2]), (88, [0]), (96, [])] 1000 ?_
  show (0 ≤ (1 : Int) ∧ (1 : Int) ≤ 1) ∧ R μ (some (kI 1))
  exact ⟨⟨by omega, by omega⟩, H⟩
theorem body_X0_isLeastYet {g k : Int} {μ : Mem} {R : Mem → Option AV → Prop} (h : P_X0_isLeastYet g k μ) (hR : ∀ (μ' : Mem) (r : Int), Q_X0_isLeastYet g k μ μ' r → R μ' (some (kI r))) : V_X0_isLeastYet R 0 [(0, kR g), (1, kI k)] μ := by
  obtain ⟨hb, hk, hcp, hrp, hsh, h16, h17, h18⟩ := h
  have hg := hb.1
  have hg2 := isG_two hg
  have hn := hb.2.1
  have hN := hb.2.2.1
  have hc0 := Pk_at hcp hk.2 (Int.le_refl 0) (by omega)
  have pw : ∀ m : Mem, m (g + 2) = μ (g + 2) → m (g + 5) = μ (g + 5) → ∀ c : Int, 0 ≤ c → c < 4 → P_X0_worthOfCell g c k m := fun m e2 e5 c c0 c1 => ⟨hg, ⟨c0, c1⟩, by omega, fun i i0 i1 => by
    have h1 := Pk_at hrp hk.2 i0 i1
    have h2 := hb.2.2.2.1 c (μ (g + 5) i) c0 c1 (by omega) (by omega)
    rw [e5, Fm_frame e2]
    exact ⟨by omega, rr (by omega)⟩⟩
  have wb : ∀ c : Int, 0 ≤ c → c < 4 → 0 ≤ F_X0_worthOfCell g c k μ ∧ F_X0_worthOfCell g c k μ ≤ 2360279040000 := fun c c0 c1 =>
    worth_bd (B := 1053696000) (by omega) hk.2 (by omega) hsh (fun i i0 i1 => by
      have h1 := Pk_at hrp hk.2 i0 i1
      exact hb.2.2.2.1 c (μ (g + 5) i) c0 c1 (by omega) (by omega))
  have w0 := wb (μ (g + 4) 0) (by omega) (by omega)
  refine vc_X0_isLeastYet_0 hg ⟨pw μ rfl rfl _ (by omega) (by omega), vc_X0_isLeastYet_15 hg ?_⟩
  have x2 : updm μ g 15 (F_X0_worthOfCell g (μ (g + 4) 0) k μ) (g + 2) = μ (g + 2) := ru_ne (by omega)
  have x5 : updm μ g 15 (F_X0_worthOfCell g (μ (g + 4) 0) k μ) (g + 5) = μ (g + 5) := ru_ne (by omega)
  have x10 : updm μ g 15 (F_X0_worthOfCell g (μ (g + 4) 0) k μ) (g + 10) = μ (g + 10) := ru_ne (by omega)
  have xz : ∀ z : Int, z ≠ g → updm μ g 15 (F_X0_worthOfCell g (μ (g + 4) 0) k μ) z = μ z := fun z hz => ru_ne hz
  have xf : ∀ f : Int, f ≠ 15 → updm μ g 15 (F_X0_worthOfCell g (μ (g + 4) 0) k μ) g f = μ g f := fun f hf => by rw [ru_eq, r1_ne hf]
  have x15 : updm μ g 15 (F_X0_worthOfCell g (μ (g + 4) 0) k μ) g 15 = F_X0_worthOfCell g (μ (g + 4) 0) k μ := by rw [ru_eq, r1_eq]
  generalize updm μ g 15 (F_X0_worthOfCell g (μ (g + 4) 0) k μ) = m at x2 x5 x10 xz xf x15
  have key : ∀ c : Int, 0 ≤ c → c ≤ μ g 0 → (∀ j : Int, 0 ≤ j → j < c → F_X0_worthOfCell g j k μ ≤ F_X0_worthOfCell g (μ (g + 4) 0) k μ) → V_X0_isLeastYet R 17 [(0, kR g), (1, kI k), (2, kI c)] m := by
    refine up_ind (P := fun c => (∀ j : Int, 0 ≤ j → j < c → F_X0_worthOfCell g j k μ ≤ F_X0_worthOfCell g (μ (g + 4) 0) k μ) → V_X0_isLeastYet R 17 [(0, kR g), (1, kI k), (2, kI c)] m) ?_ ?_
    · intro c c0 c1 ih hq
      have wc := wb c c0 (by omega)
      refine vc_X0_isLeastYet_17 hg ?_
      rw [xf 0 (by omega), worth_frame x2 x5 x10, x15]
      refine ⟨rr (by omega), rr (by omega), fun q => absurd q (by omega), fun _ => ⟨pw m x2 x5 c c0 (by omega), rl (by omega), rl (by omega), fun q => ih (fun j j0 j1 => ?_), fun q => hR m 0 ⟨xz, fun f f0 _ _ => xf f f0, x15, Or.inl ⟨rfl, xf 17 (by omega), xf 18 (by omega), Or.inl ⟨c, ⟨c0, c1⟩, by omega⟩⟩⟩⟩⟩
      by_cases e : j = c
      · rw [e]; exact q
      · exact hq j j0 (by omega)
    · intro hq
      have take : V_X0_isLeastYet R 88 [(0, kR g)] (updm m g 17 (m g 15)) := by
        refine vc_X0_isLeastYet_88 hg (vc_X0_isLeastYet_96 hg (hR _ 1 ⟨fun z hz => by rw [ru_ne hz, ru_ne hz]; exact xz z hz, fun f f0 f1 f2 => ?_, ?_, Or.inr ⟨rfl, ?_, ?_, hq⟩⟩))
        · rw [ru_eq, r1_ne f2, ru_eq, r1_ne f1]; exact xf f f0
        · rw [ru_eq, r1_ne (by omega), ru_eq, r1_ne (by omega)]; exact x15
        · rw [ru_eq, r1_ne (by omega), ru_eq, r1_eq]; exact x15
        · rw [ru_eq, r1_eq, ru_eq, r1_ne (by omega)]; exact xf 16 (by omega)
      refine vc_X0_isLeastYet_17 hg ?_
      unfold F_X10_isLess lessI
      rw [xf 0 (by omega), xf 18 (by omega), xf 17 (by omega), xf 16 (by omega), x15]
      rw [x15] at take
      refine ⟨rr (by omega), rr (by omega), fun _ => ⟨rl (by omega), fun _ => take, fun q => ⟨⟨h17 (by omega), by omega, by omega, h16⟩, ?_⟩⟩, fun q => absurd (Int.le_refl _) q⟩
      by_cases hl : μ g 17 * μ g 16 < F_X0_worthOfCell g (μ (g + 4) 0) k μ * μ g 18
      · rw [if_pos hl]
        exact ⟨rr (by omega), fun q => absurd q (by omega), fun _ => hR m 0 ⟨xz, fun f f0 _ _ => xf f f0, x15, Or.inl ⟨rfl, xf 17 (by omega), xf 18 (by omega), Or.inr ⟨by omega, hl⟩⟩⟩⟩
      · rw [if_neg hl]
        exact ⟨rr (by omega), fun _ => take, fun q => absurd rfl q⟩
  exact key 0 (by omega) (by omega) (fun j j0 j1 => absurd j0 (by omega))
theorem ct_X0_isLeastYet : Ct mX0_isLeastYet 1 36 0 0 (nrmS S_X0_isLeastYet) := by
  refine ct_vm (own := RX0) (by decide +kernel) rfl ?_ ?_
  · intro as μ Q hS
    unfold S_X0_isLeastYet at hS
    split at hS
    · exact Nat.le_of_ble_eq_true rfl
    · exact hS.elim
  · intro as μ R hS
    unfold S_X0_isLeastYet at hS
    split at hS
    · exact body_X0_isLeastYet hS.1 hS.2
    · exact hS.elim
theorem Pk_lt {k n i : Int} {p : Int → Int} (h : Pk k n p) (k4 : k ≤ 4) (i0 : 0 ≤ i) (i1 : i + 1 < k) : p i < p (i + 1) := by
  obtain ⟨_, a, b, c⟩ := h
  rcases (by omega : i = 0 ∨ i = 1 ∨ i = 2) with e | e | e <;> subst e
  · exact (a (by omega)).1
  · exact (b (by omega)).1
  · exact (c (by omega)).1
theorem Pk_mk {k n : Int} {p : Int → Int} (h1 : ∀ i, 0 ≤ i → i < k → 0 ≤ p i ∧ p i < n) (h2 : ∀ i, 0 ≤ i → i + 1 < k → p i < p (i + 1)) : Pk k n p :=
  ⟨fun c => h1 0 (by omega) (by omega), fun c => ⟨h2 0 (by omega) (by omega), (h1 1 (by omega) (by omega)).2⟩, fun c => ⟨h2 1 (by omega) (by omega), (h1 2 (by omega) (by omega)).2⟩, fun c => ⟨h2 2 (by omega) (by omega), (h1 3 (by omega) (by omega)).2⟩⟩
theorem Pk_skip {k n i : Int} {p : Int → Int} (h : Pk k n p) (k4 : k ≤ 4) (i0 : 0 ≤ i) : Pk (k - 1) n (fun l => p (ski i l)) := by
  refine Pk_mk (fun l l0 l1 => ?_) (fun l l0 l1 => ?_)
  · have := ski_in l0 l1 i0
    have := Pk_at h k4 this.1 this.2
    exact ⟨this.1, this.2.1⟩
  · show p (ski i l) < p (ski i (l + 1))
    by_cases c : l + 1 < i
    · rw [ski_lt (by omega), ski_lt c]; exact Pk_lt h k4 l0 (by omega)
    · by_cases c2 : l < i
      · rw [ski_lt c2, ski_ge (by omega)]
        have := Pk_lt h k4 l0 (by omega)
        have := Pk_lt h k4 (show 0 ≤ l + 1 by omega) (by omega)
        omega
      · rw [ski_ge (by omega), ski_ge (by omega)]; exact Pk_lt h k4 (by omega) (by omega)
theorem Pk_pred {k n : Int} {p : Int → Int} (h : Pk k n p) : Pk (k - 1) n p := by
  unfold Pk at h ⊢
  omega
theorem rk_step {k i : Int} {p : Int → Int} (i0 : 0 < i) (i1 : i < k) : rkV (k - 1) (fun l => p (ski (i - 1) l)) = rkV (k - 1) (fun l => p (ski i l)) + (chV i (p i) - chV i (p (i - 1))) := by
  refine sm_upd (b := i - 1) (by omega) (by omega) (fun l l0 l1 hl => ?_) ?_
  · show chV (l + 1) (p (ski (i - 1) l)) = chV (l + 1) (p (ski i l))
    by_cases c : l < i - 1
    · rw [ski_lt c, ski_lt (by omega)]
    · rw [ski_ge (by omega), ski_ge (by omega)]
  · show chV (i - 1 + 1) (p (ski (i - 1) (i - 1))) = chV (i - 1 + 1) (p (ski i (i - 1))) + _
    rw [ski_ge (Int.le_refl _), ski_lt (by omega)]
    have e : i - 1 + 1 = i := by omega
    rw [e]; omega
theorem sm_pos {f : Int → Int} {n j : Int} (h : ∀ i, 0 ≤ i → i < n → 0 ≤ f i) (j0 : 0 ≤ j) (j1 : j < n) (hj : 0 < f j) : 0 < sm f n := by
  have h1 := sm_le (f := fun i => if i = j then f j else 0) (g := f) (n := n) (fun i i0 i1 => by
    show (if i = j then f j else 0) ≤ f i
    split
    · rename_i c; rw [c]; exact Int.le_refl _
    · exact h i i0 i1) (by omega)
  rw [sm_one (by omega), if_pos ⟨j0, j1⟩] at h1
  omega
def RowsOk (F : Int → Int → Int) (k : Int) (cp rp : Int → Int) : Prop := kerS F k cp rp ≠ 0 ∧ ∀ j, 0 ≤ j → j < k → 0 ≤ sgn (kerS F k cp rp) * kerR F k cp rp j
def P_X0_weighRows (g k : Int) (μ : Mem) : Prop := GB μ g ∧ (1 ≤ k ∧ k ≤ 4) ∧ Pk k (μ g 0) (μ (g + 4)) ∧ Pk k (μ g 1) (μ (g + 5)) ∧ ∀ q : Int → Int, Pk (k - 1) (μ g 1) q → μ (g + 7) (rkV (k - 1) q) = onV (Fm μ g) k (μ (g + 4)) q
def Q_X0_weighRows (g k : Int) (μ μ' : Mem) (r : Int) : Prop := (∀ z : Int, z ≠ g → z ≠ g + 10 → μ' z = μ z) ∧ (∀ f : Int, f ≠ 13 → f ≠ 16 → μ' g f = μ g f) ∧
  ((r = 0 ∧ ¬ RowsOk (Fm μ g) k (μ (g + 4)) (μ (g + 5))) ∨ (r = 1 ∧ RowsOk (Fm μ g) k (μ (g + 4)) (μ (g + 5)) ∧ μ' g 13 = (if kerS (Fm μ g) k (μ (g + 4)) (μ (g + 5)) < 0 then 1 else 0) ∧
    μ' g 16 = sgn (kerS (Fm μ g) k (μ (g + 4)) (μ (g + 5))) * kerS (Fm μ g) k (μ (g + 4)) (μ (g + 5)) ∧ ∀ j : Int, 0 ≤ j → j < k → μ' (g + 10) j = sgn (kerS (Fm μ g) k (μ (g + 4)) (μ (g + 5))) * kerR (Fm μ g) k (μ (g + 4)) (μ (g + 5)) j))
/-- how the signs stand of those behind i -/
def LE (k : Int) (x : Int → Int) (mo le i : Int) : Prop := (mo = 0 ∨ mo = 1) ∧ (le = 0 ∨ le = 1) ∧ (mo = 1 → le = 0) ∧ (mo = 0 → ∀ j, i < j → j < k → x j ≤ 0) ∧ (le = 0 → ∀ j, i < j → j < k → 0 ≤ x j) ∧ (mo = 1 → ∃ j, (i < j ∧ j < k) ∧ 0 < x j) ∧ (le = 1 → ∃ j, (i < j ∧ j < k) ∧ x j < 0)
def S_X0_weighRows : S0t := fun as μ Q => match as with
  | [(2, x0), (0, x1)] => P_X0_weighRows x0 x1 μ ∧ ∀ (μ' : Mem) (r : Int), Q_X0_weighRows x0 x1 μ μ' r → Q μ' (some (kI r))
  | _ => False
theorem mono_X0_weighRows : Mono S_X0_weighRows := by
  intro as μ Q Q' h hS
  unfold S_X0_weighRows at hS ⊢
  split at hS
  · exact ⟨hS.1, fun μ' r q => h _ _ (hS.2 _ _ q)⟩
  · exact hS.elim
def iX0_weighRows : Inf := (kX0_weighRows, fTX0, pTX0, cTX0, lTX0, sTX0, [(137, 0, 1, 0, S_X0_rankOf)])
theorem ok_X0_weighRows : infOK iX0_weighRows mX0_weighRows RX0 1 23 := ⟨kkX0_weighRows, fTX0_ok, pTX0_ok _, cTX0_ok, lTX0_ok, sTX0_ok, c_cons ⟨mX0_rankOf, 0, 0, ct_X0_rankOf, mmX0_rankOf, vvX0_rankOf, lkX0_137, ⟨by decide, by decide⟩, ⟨_, _, rfl⟩, by decide, mono_X0_rankOf⟩ (c_nil)⟩
theorem mt_X0_weighRows : mtOK [(140, 2)] RX0 1 23 := mt_cons ⟨MI0, by decide, by decide, ML_X0_140, MS2, MC2⟩ (mt_nil)
abbrev V_X0_weighRows (R : Mem → Option AV → Prop) (pc : Nat) (lc : List (Nat × AV)) (μ : Mem) : Prop := VM mX0_weighRows RX0 1 23 R pc lc [] μ
set_option maxRecDepth 20000 in
theorem vc_X0_weighRows_0 {R : Mem → Option AV → Prop} {k g : Int} {μ : Mem} (hg : isG g) (H : P_X0_rankOf g (k - 1) μ ∧ V_X0_weighRows R 22 [(0, kR g), (1, kI k), (2, kL 0), (4, kI 0), (5, kI 0), (6, kI (F_X0_rankOf g (k - 1) μ)), (7, kI (k - 1))] μ) : V_X0_weighRows R 0 [(0, kR g), (1, kI k)] μ := by
  refine vm_step2 mt_X0_weighRows ok_X0_weighRows [(22, [0, 1, 2, 4, 5, 6, 7]), (59, [0, 1, 2, 4, 5, 6, 7, 8]), (97, [0, 1, 2, 4, 5, 6, 7, 8]), (121, [0, 1, 2, 4, 5, 6, 7]), (192, [0, 2]), (197, [2])] 1000 ?_
  show isC g 0 ∧ P_X0_rankOf g (k - 1) μ ∧ V_X0_weighRows R 22 [(0, kR g), (1, kI k), (2, kL 0), (4, kI 0), (5, kI 0), (6, kI (F_X0_rankOf g (k - 1) μ)), (7, kI (k - 1))] μ
  exact ⟨isG_C hg, H.1, H.2⟩
set_option maxRecDepth 20000 in
theorem vc_X0_weighRows_22 {R : Mem → Option AV → Prop} {k sum mo le rk i g : Int} {μ : Mem} (hg : isG g) (H : r32 i ∧ ((i < 0) → (0 ≤ le ∧ le ≤ 1) ∧ V_X0_weighRows R 192 [(0, kR g), (2, kL sum)] (updm μ g 13 le)) ∧ (¬ (i < 0) → r32 (band ((k - 1) - i) 1) ∧ ((¬ (band ((k - 1) - i) 1) = (1 : Int)) → (0 ≤ rk ∧ rk < 2024) ∧ V_X0_weighRows R 59 [(0, kR g), (1, kI k), (2, kL sum), (4, kI mo), (5, kI le), (6, kI rk), (7, kI i), (8, kL (μ (g + 7) rk))] μ) ∧ (¬ (¬ (band ((k - 1) - i) 1) = (1 : Int)) → (0 ≤ rk ∧ rk < 2024) ∧ V_X0_weighRows R 59 [(0, kR g), (1, kI k), (2, kL sum), (4, kI mo), (5, kI le), (6, kI rk), (7, kI i), (8, kL (-(μ (g + 7) rk)))] μ))) : V_X0_weighRows R 22 [(0, kR g), (1, kI k), (2, kL sum), (4, kI mo), (5, kI le), (6, kI rk), (7, kI i)] μ := by
  refine vm_step2 mt_X0_weighRows ok_X0_weighRows [(22, [0, 1, 2, 4, 5, 6, 7]), (59, [0, 1, 2, 4, 5, 6, 7, 8]), (97, [0, 1, 2, 4, 5, 6, 7, 8]), (121, [0, 1, 2, 4, 5, 6, 7]), (192, [0, 2]), (197, [2])] 1000 ?_
  show r32 i ∧ ((i < 0) → isC g 0 ∧ 0 = 0 ∧ (0 ≤ le ∧ le ≤ 1) ∧ V_X0_weighRows R 192 [(0, kR g), (2, kL sum)] (updm μ g 13 le)) ∧ (¬ (i < 0) → (r32 (band ((k - 1) - i) 1) ∧ r32 (1 : Int)) ∧ ((¬ (band ((k - 1) - i) 1) = (1 : Int)) → isC g 0 ∧ inA (g + 7) 1 rk ∧ V_X0_weighRows R 59 [(0, kR g), (1, kI k), (2, kL sum), (4, kI mo), (5, kI le), (6, kI rk), (7, kI i), (8, kL (μ (g + 7) rk))] μ) ∧ (¬ (¬ (band ((k - 1) - i) 1) = (1 : Int)) → isC g 0 ∧ inA (g + 7) 1 rk ∧ V_X0_weighRows R 59 [(0, kR g), (1, kI k), (2, kL sum), (4, kI mo), (5, kI le), (6, kI rk), (7, kI i), (8, kL (-(μ (g + 7) rk)))] μ))
  exact ⟨H.1, fun hc2 => ⟨isG_C hg, rfl, (H.2.1 hc2).1, (H.2.1 hc2).2⟩, fun hc2 => ⟨⟨(H.2.2 hc2).1, by unfold r32; omega⟩, fun hc1 => ⟨isG_C hg, ⟨isArr.in (Gm_ones hg) ((H.2.2 hc2).2.1 hc1).1.1 ((H.2.2 hc2).2.1 hc1).1.2, ((H.2.2 hc2).2.1 hc1).2⟩⟩, fun hc1 => ⟨isG_C hg, ⟨isArr.in (Gm_ones hg) ((H.2.2 hc2).2.2 hc1).1.1 ((H.2.2 hc2).2.2 hc1).1.2, ((H.2.2 hc2).2.2 hc1).2⟩⟩⟩⟩
set_option maxRecDepth 20000 in
theorem vc_X0_weighRows_59 {R : Mem → Option AV → Prop} {k sum mo le rk i pt g : Int} {μ : Mem} (hg : isG g) (H : r32 mo ∧ ((¬ mo = 0) → r32 le ∧ ((¬ le = 0) → V_X0_weighRows R 97 [(0, kR g), (1, kI k), (2, kL sum), (4, kI 1), (5, kI 1), (6, kI rk), (7, kI i), (8, kL pt)] μ) ∧ (¬ (¬ le = 0) → r64 pt ∧ (((0 : Int) ≤ pt) → V_X0_weighRows R 97 [(0, kR g), (1, kI k), (2, kL sum), (4, kI 1), (5, kI 0), (6, kI rk), (7, kI i), (8, kL pt)] μ) ∧ (¬ ((0 : Int) ≤ pt) → V_X0_weighRows R 97 [(0, kR g), (1, kI k), (2, kL sum), (4, kI 1), (5, kI 1), (6, kI rk), (7, kI i), (8, kL pt)] μ))) ∧ (¬ (¬ mo = 0) → r64 pt ∧ ((pt ≤ (0 : Int)) → r32 le ∧ ((¬ le = 0) → V_X0_weighRows R 97 [(0, kR g), (1, kI k), (2, kL sum), (4, kI 0), (5, kI 1), (6, kI rk), (7, kI i), (8, kL pt)] μ) ∧ (¬ (¬ le = 0) → r64 pt ∧ (((0 : Int) ≤ pt) → V_X0_weighRows R 97 [(0, kR g), (1, kI k), (2, kL sum), (4, kI 0), (5, kI 0), (6, kI rk), (7, kI i), (8, kL pt)] μ) ∧ (¬ ((0 : Int) ≤ pt) → V_X0_weighRows R 97 [(0, kR g), (1, kI k), (2, kL sum), (4, kI 0), (5, kI 1), (6, kI rk), (7, kI i), (8, kL pt)] μ))) ∧ (¬ (pt ≤ (0 : Int)) → r32 le ∧ ((¬ le = 0) → V_X0_weighRows R 97 [(0, kR g), (1, kI k), (2, kL sum), (4, kI 1), (5, kI 1), (6, kI rk), (7, kI i), (8, kL pt)] μ) ∧ (¬ (¬ le = 0) → r64 pt ∧ (((0 : Int) ≤ pt) → V_X0_weighRows R 97 [(0, kR g), (1, kI k), (2, kL sum), (4, kI 1), (5, kI 0), (6, kI rk), (7, kI i), (8, kL pt)] μ) ∧ (¬ ((0 : Int) ≤ pt) → V_X0_weighRows R 97 [(0, kR g), (1, kI k), (2, kL sum), (4, kI 1), (5, kI 1), (6, kI rk), (7, kI i), (8, kL pt)] μ))))) : V_X0_weighRows R 59 [(0, kR g), (1, kI k), (2, kL sum), (4, kI mo), (5, kI le), (6, kI rk), (7, kI i), (8, kL pt)] μ := by
  refine vm_step2 mt_X0_weighRows ok_X0_weighRows [(22, [0, 1, 2, 4, 5, 6, 7]), (59, [0, 1, 2, 4, 5, 6, 7, 8]), (97, [0, 1, 2, 4, 5, 6, 7, 8]), (121, [0, 1, 2, 4, 5, 6, 7]), (192, [0, 2]), (197, [2])] 1000 ?_
  show r32 mo ∧ ((¬ mo = 0) → r32 le ∧ ((¬ le = 0) → V_X0_weighRows R 97 [(0, kR g), (1, kI k), (2, kL sum), (4, kI 1), (5, kI 1), (6, kI rk), (7, kI i), (8, kL pt)] μ) ∧ (¬ (¬ le = 0) → (r64 pt ∧ r64 (0 : Int)) ∧ r32 (lcm3 pt (0 : Int)) ∧ ((0 ≤ lcm3 pt (0 : Int)) → V_X0_weighRows R 97 [(0, kR g), (1, kI k), (2, kL sum), (4, kI 1), (5, kI 0), (6, kI rk), (7, kI i), (8, kL pt)] μ) ∧ (¬ (0 ≤ lcm3 pt (0 : Int)) → V_X0_weighRows R 97 [(0, kR g), (1, kI k), (2, kL sum), (4, kI 1), (5, kI 1), (6, kI rk), (7, kI i), (8, kL pt)] μ))) ∧ (¬ (¬ mo = 0) → (r64 pt ∧ r64 (0 : Int)) ∧ r32 (lcm3 pt (0 : Int)) ∧ ((lcm3 pt (0 : Int) ≤ 0) → r32 le ∧ ((¬ le = 0) → V_X0_weighRows R 97 [(0, kR g), (1, kI k), (2, kL sum), (4, kI 0), (5, kI 1), (6, kI rk), (7, kI i), (8, kL pt)] μ) ∧ (¬ (¬ le = 0) → (r64 pt ∧ r64 (0 : Int)) ∧ r32 (lcm3 pt (0 : Int)) ∧ ((0 ≤ lcm3 pt (0 : Int)) → V_X0_weighRows R 97 [(0, kR g), (1, kI k), (2, kL sum), (4, kI 0), (5, kI 0), (6, kI rk), (7, kI i), (8, kL pt)] μ) ∧ (¬ (0 ≤ lcm3 pt (0 : Int)) → V_X0_weighRows R 97 [(0, kR g), (1, kI k), (2, kL sum), (4, kI 0), (5, kI 1), (6, kI rk), (7, kI i), (8, kL pt)] μ))) ∧ (¬ (lcm3 pt (0 : Int) ≤ 0) → r32 le ∧ ((¬ le = 0) → V_X0_weighRows R 97 [(0, kR g), (1, kI k), (2, kL sum), (4, kI 1), (5, kI 1), (6, kI rk), (7, kI i), (8, kL pt)] μ) ∧ (¬ (¬ le = 0) → (r64 pt ∧ r64 (0 : Int)) ∧ r32 (lcm3 pt (0 : Int)) ∧ ((0 ≤ lcm3 pt (0 : Int)) → V_X0_weighRows R 97 [(0, kR g), (1, kI k), (2, kL sum), (4, kI 1), (5, kI 0), (6, kI rk), (7, kI i), (8, kL pt)] μ) ∧ (¬ (0 ≤ lcm3 pt (0 : Int)) → V_X0_weighRows R 97 [(0, kR g), (1, kI k), (2, kL sum), (4, kI 1), (5, kI 1), (6, kI rk), (7, kI i), (8, kL pt)] μ))))
  exact ⟨H.1, fun hc10 => ⟨(H.2.1 hc10).1, fun hc4 => ((H.2.1 hc10).2.1 hc4), fun hc4 => ⟨⟨((H.2.1 hc10).2.2 hc4).1, by unfold r64; omega⟩, lcm3_r _ _, fun hc3 => (((H.2.1 hc10).2.2 hc4).2.1 (lcm_ge.mp hc3)), fun hc3 => (((H.2.1 hc10).2.2 hc4).2.2 (fun q => hc3 (lcm_ge.mpr q)))⟩⟩, fun hc10 => ⟨⟨(H.2.2 hc10).1, by unfold r64; omega⟩, lcm3_r _ _, fun hc9 => ⟨((H.2.2 hc10).2.1 (lcm_le.mp hc9)).1, fun hc6 => (((H.2.2 hc10).2.1 (lcm_le.mp hc9)).2.1 hc6), fun hc6 => ⟨⟨(((H.2.2 hc10).2.1 (lcm_le.mp hc9)).2.2 hc6).1, by unfold r64; omega⟩, lcm3_r _ _, fun hc5 => ((((H.2.2 hc10).2.1 (lcm_le.mp hc9)).2.2 hc6).2.1 (lcm_ge.mp hc5)), fun hc5 => ((((H.2.2 hc10).2.1 (lcm_le.mp hc9)).2.2 hc6).2.2 (fun q => hc5 (lcm_ge.mpr q)))⟩⟩, fun hc9 => ⟨((H.2.2 hc10).2.2 (fun q => hc9 (lcm_le.mpr q))).1, fun hc8 => (((H.2.2 hc10).2.2 (fun q => hc9 (lcm_le.mpr q))).2.1 hc8), fun hc8 => ⟨⟨(((H.2.2 hc10).2.2 (fun q => hc9 (lcm_le.mpr q))).2.2 hc8).1, by unfold r64; omega⟩, lcm3_r _ _, fun hc7 => ((((H.2.2 hc10).2.2 (fun q => hc9 (lcm_le.mpr q))).2.2 hc8).2.1 (lcm_ge.mp hc7)), fun hc7 => ((((H.2.2 hc10).2.2 (fun q => hc9 (lcm_le.mpr q))).2.2 hc8).2.2 (fun q => hc7 (lcm_ge.mpr q)))⟩⟩⟩⟩
set_option maxRecDepth 20000 in
theorem vc_X0_weighRows_97 {R : Mem → Option AV → Prop} {k sum mo le rk i pt g : Int} {μ : Mem} (hg : isG g) (H : r32 mo ∧ ((mo = 0) → r64 pt ∧ (0 ≤ i ∧ i < 4) ∧ V_X0_weighRows R 121 [(0, kR g), (1, kI k), (2, kL sum), (4, kI mo), (5, kI le), (6, kI rk), (7, kI i)] (updm μ (g + 10) i (if 0 < pt then pt else -pt))) ∧ (¬ (mo = 0) → r32 le ∧ ((le = 0) → r64 pt ∧ (0 ≤ i ∧ i < 4) ∧ V_X0_weighRows R 121 [(0, kR g), (1, kI k), (2, kL sum), (4, kI mo), (5, kI le), (6, kI rk), (7, kI i)] (updm μ (g + 10) i (if 0 < pt then pt else -pt))) ∧ (¬ (le = 0) → R μ (some (kI 0))))) : V_X0_weighRows R 97 [(0, kR g), (1, kI k), (2, kL sum), (4, kI mo), (5, kI le), (6, kI rk), (7, kI i), (8, kL pt)] μ := by
  refine vm_step2 mt_X0_weighRows ok_X0_weighRows [(22, [0, 1, 2, 4, 5, 6, 7]), (59, [0, 1, 2, 4, 5, 6, 7, 8]), (97, [0, 1, 2, 4, 5, 6, 7, 8]), (121, [0, 1, 2, 4, 5, 6, 7]), (192, [0, 2]), (197, [2])] 1000 ?_
  show r32 mo ∧ ((mo = 0) → isC g 0 ∧ r64 pt ∧ inA (g + 10) 1 i ∧ V_X0_weighRows R 121 [(0, kR g), (1, kI k), (2, kL sum), (4, kI mo), (5, kI le), (6, kI rk), (7, kI i)] (updm μ (g + 10) i (if 0 < pt then pt else -pt))) ∧ (¬ (mo = 0) → r32 le ∧ ((le = 0) → isC g 0 ∧ r64 pt ∧ inA (g + 10) 1 i ∧ V_X0_weighRows R 121 [(0, kR g), (1, kI k), (2, kL sum), (4, kI mo), (5, kI le), (6, kI rk), (7, kI i)] (updm μ (g + 10) i (if 0 < pt then pt else -pt))) ∧ (¬ (le = 0) → (0 ≤ (0 : Int) ∧ (0 : Int) ≤ 1) ∧ R μ (some (kI 0))))
  exact ⟨H.1, fun hc12 => ⟨isG_C hg, ⟨(H.2.1 hc12).1, ⟨isArr.in (Gm_rowShare hg) (H.2.1 hc12).2.1.1 (H.2.1 hc12).2.1.2, (H.2.1 hc12).2.2⟩⟩⟩, fun hc12 => ⟨(H.2.2 hc12).1, fun hc11 => ⟨isG_C hg, ⟨((H.2.2 hc12).2.1 hc11).1, ⟨isArr.in (Gm_rowShare hg) ((H.2.2 hc12).2.1 hc11).2.1.1 ((H.2.2 hc12).2.1 hc11).2.1.2, ((H.2.2 hc12).2.1 hc11).2.2⟩⟩⟩, fun hc11 => ⟨⟨by omega, by omega⟩, ((H.2.2 hc12).2.2 hc11)⟩⟩⟩
set_option maxRecDepth 20000 in
theorem vc_X0_weighRows_121 {R : Mem → Option AV → Prop} {k sum mo le rk i g : Int} {μ : Mem} (hg : isG g) (H : (0 ≤ i ∧ i < 4) ∧ r32 i ∧ ((i ≤ 0) → V_X0_weighRows R 22 [(0, kR g), (1, kI k), (2, kL (sum + (μ (g + 10) i))), (4, kI mo), (5, kI le), (6, kI rk), (7, kI (i + (-1)))] μ) ∧ (¬ (i ≤ 0) → (0 ≤ i ∧ i < 4) ∧ (0 ≤ ((i * 24) + (μ (g + 5) i)) ∧ ((i * 24) + (μ (g + 5) i)) < 96) ∧ (0 ≤ (i - 1) ∧ (i - 1) < 4) ∧ (0 ≤ ((i * 24) + (μ (g + 5) (i - 1))) ∧ ((i * 24) + (μ (g + 5) (i - 1))) < 96) ∧ V_X0_weighRows R 22 [(0, kR g), (1, kI k), (2, kL (sum + (μ (g + 10) i))), (4, kI mo), (5, kI le), (6, kI (rk + ((μ (g + 6) ((i * 24) + (μ (g + 5) i))) - (μ (g + 6) ((i * 24) + (μ (g + 5) (i - 1))))))), (7, kI (i + (-1)))] μ)) : V_X0_weighRows R 121 [(0, kR g), (1, kI k), (2, kL sum), (4, kI mo), (5, kI le), (6, kI rk), (7, kI i)] μ := by
  refine vm_step2 mt_X0_weighRows ok_X0_weighRows [(22, [0, 1, 2, 4, 5, 6, 7]), (59, [0, 1, 2, 4, 5, 6, 7, 8]), (97, [0, 1, 2, 4, 5, 6, 7, 8]), (121, [0, 1, 2, 4, 5, 6, 7]), (192, [0, 2]), (197, [2])] 1000 ?_
  show isC g 0 ∧ inA (g + 10) 1 i ∧ r32 i ∧ ((i ≤ 0) → V_X0_weighRows R 22 [(0, kR g), (1, kI k), (2, kL (sum + (μ (g + 10) i))), (4, kI mo), (5, kI le), (6, kI rk), (7, kI (i + (-1)))] μ) ∧ (¬ (i ≤ 0) → isC g 0 ∧ isC g 0 ∧ inA (g + 5) 0 i ∧ inA (g + 6) 0 ((i * 24) + (μ (g + 5) i)) ∧ isC g 0 ∧ isC g 0 ∧ inA (g + 5) 0 (i - 1) ∧ inA (g + 6) 0 ((i * 24) + (μ (g + 5) (i - 1))) ∧ V_X0_weighRows R 22 [(0, kR g), (1, kI k), (2, kL (sum + (μ (g + 10) i))), (4, kI mo), (5, kI le), (6, kI (rk + ((μ (g + 6) ((i * 24) + (μ (g + 5) i))) - (μ (g + 6) ((i * 24) + (μ (g + 5) (i - 1))))))), (7, kI (i + (-1)))] μ)
  exact ⟨isG_C hg, ⟨isArr.in (Gm_rowShare hg) H.1.1 H.1.2, ⟨H.2.1, fun hc13 => (H.2.2.1 hc13), fun hc13 => ⟨isG_C hg, ⟨isG_C hg, ⟨isArr.in (Gm_rowPick hg) (H.2.2.2 hc13).1.1 (H.2.2.2 hc13).1.2, ⟨isArr.in (Gm_choices hg) (H.2.2.2 hc13).2.1.1 (H.2.2.2 hc13).2.1.2, ⟨isG_C hg, ⟨isG_C hg, ⟨isArr.in (Gm_rowPick hg) (H.2.2.2 hc13).2.2.1.1 (H.2.2.2 hc13).2.2.1.2, ⟨isArr.in (Gm_choices hg) (H.2.2.2 hc13).2.2.2.1.1 (H.2.2.2 hc13).2.2.2.1.2, (H.2.2.2 hc13).2.2.2.2⟩⟩⟩⟩⟩⟩⟩⟩⟩⟩⟩
set_option maxRecDepth 20000 in
theorem vc_X0_weighRows_192 {R : Mem → Option AV → Prop} {sum g : Int} {μ : Mem} (hg : isG g) (H : V_X0_weighRows R 197 [(2, kL sum)] (updm μ g 16 sum)) : V_X0_weighRows R 192 [(0, kR g), (2, kL sum)] μ := by
  refine vm_step2 mt_X0_weighRows ok_X0_weighRows [(22, [0, 1, 2, 4, 5, 6, 7]), (59, [0, 1, 2, 4, 5, 6, 7, 8]), (97, [0, 1, 2, 4, 5, 6, 7, 8]), (121, [0, 1, 2, 4, 5, 6, 7]), (192, [0, 2]), (197, [2])] 1000 ?_
  show isC g 0 ∧ 1 = 1 ∧ True ∧ V_X0_weighRows R 197 [(2, kL sum)] (updm μ g 16 sum)
  exact ⟨isG_C hg, rfl, trivial, H⟩
set_option maxRecDepth 20000 in
theorem vc_X0_weighRows_197 {R : Mem → Option AV → Prop} {sum g : Int} {μ : Mem} (hg : isG g) (H : r64 sum ∧ ((sum = (0 : Int)) → R μ (some (kI 0))) ∧ (¬ (sum = (0 : Int)) → R μ (some (kI 1)))) : V_X0_weighRows R 197 [(2, kL sum)] μ := by
  refine vm_step2 mt_X0_weighRows ok_X0_weighRows [(22, [0, 1, 2, 4, 5, 6, 7]), (59, [0, 1, 2, 4, 5, 6, 7, 8]), (97, [0, 1, 2, 4, 5, 6, 7, 8]), (121, [0, 1, 2, 4, 5, 6, 7]), (192, [0, 2]), (197, [2])] 1000 ?_
  show (r64 sum ∧ r64 (0 : Int)) ∧ r32 (lcm3 sum (0 : Int)) ∧ ((lcm3 sum (0 : Int) = 0) → (0 ≤ (0 : Int) ∧ (0 : Int) ≤ 1) ∧ R μ (some (kI 0))) ∧ (¬ (lcm3 sum (0 : Int) = 0) → (0 ≤ (1 : Int) ∧ (1 : Int) ≤ 1) ∧ R μ (some (kI 1)))
  exact ⟨⟨H.1, by unfold r64; omega⟩, lcm3_r _ _, fun hc14 => ⟨⟨by omega, by omega⟩, (H.2.1 (lcm_eq.mp hc14))⟩, fun hc14 => ⟨⟨by omega, by omega⟩, (H.2.2 (fun q => hc14 (lcm_eq.mpr q)))⟩⟩
theorem body_X0_weighRows {g k : Int} {μ : Mem} {R : Mem → Option AV → Prop} (h : P_X0_weighRows g k μ) (hR : ∀ (μ' : Mem) (r : Int), Q_X0_weighRows g k μ μ' r → R μ' (some (kI r))) : V_X0_weighRows R 0 [(0, kR g), (1, kI k)] μ := by
  obtain ⟨hb, hk, hcp, hrp, ho⟩ := h
  have hg := hb.1
  have hg2 := isG_two hg
  have hn := hb.2.1
  have hN := hb.2.2.1
  have hbd : ∀ j : Int, 0 ≤ j → j < k → -1053696000 ≤ kerR (Fm μ g) k (μ (g + 4)) (μ (g + 5)) j ∧ kerR (Fm μ g) k (μ (g + 4)) (μ (g + 5)) j ≤ 1053696000 := fun j j0 j1 => kerR_bd hk.1 hk.2 j0 (fun a b a0 a1 b0 b1 => by
    have h1 := Pk_at hcp hk.2 a0 a1
    have h2 := Pk_at hrp hk.2 b0 b1
    exact hb.2.2.2.1 _ _ (by omega) (by omega) (by omega) (by omega))
  -- the rows' numbers
  have hpt : ∀ i : Int, 0 ≤ i → i < k → kerR (Fm μ g) k (μ (g + 4)) (μ (g + 5)) i = if (k - 1 - i) % 2 = 1 then -(μ (g + 7) (rkV (k - 1) (fun l => μ (g + 5) (ski i l)))) else μ (g + 7) (rkV (k - 1) (fun l => μ (g + 5) (ski i l))) := fun i i0 i1 => by
    rw [ho _ (Pk_skip hrp hk.2 i0)]
    unfold kerR
    split <;> omega
  unfold Q_X0_weighRows RowsOk kerS at hR
  generalize hx : kerR (Fm μ g) k (μ (g + 4)) (μ (g + 5)) = x at hR hbd hpt
  have ab : ∀ j : Int, 0 ≤ j → j < k → 0 ≤ (if 0 < x j then x j else -x j) ∧ (if 0 < x j then x j else -x j) ≤ 1053696000 := fun j j0 j1 => by
    have := hbd j j0 j1
    split <;> omega
  have sab := sm_bd (f := fun j => if 0 < x j then x j else -x j) (n := k) (c := 0) (d := 1053696000) ab (by omega)
  -- both signs
  have both : (∃ j, (0 ≤ j ∧ j < k) ∧ 0 < x j) → (∃ j, (0 ≤ j ∧ j < k) ∧ x j < 0) → ¬ (sm x k ≠ 0 ∧ ∀ j, 0 ≤ j → j < k → 0 ≤ sgn (sm x k) * x j) := by
    rintro ⟨a, ha, ha2⟩ ⟨b, hb, hb2⟩ ⟨_, q⟩
    have q1 := q a ha.1 ha.2
    have q2 := q b hb.1 hb.2
    unfold sgn at q1 q2
    by_cases c : sm x k < 0
    · rw [if_pos c] at q1 q2; omega
    · rw [if_neg c] at q1 q2; omega
  -- the end
  have fin : ∀ (m : Mem) (sum le mo : Int), (∀ z : Int, z ≠ g + 10 → m z = μ z) → (∀ j : Int, -1 < j → j < k → m (g + 10) j = if 0 < x j then x j else -x j) → sum = sm (fun j => if 0 < x j then x j else -x j) k → LE k x mo le (-1) → V_X0_weighRows R 192 [(0, kR g), (2, kL sum)] (updm m g 13 le) := by
    intro m sum le mo hf hs hsum hle
    obtain ⟨l1, l2, l3, l4, l5, l6, l7⟩ := hle
    refine vc_X0_weighRows_192 hg (vc_X0_weighRows_197 hg ⟨rl (by omega), ?_⟩)
    have core : sum = sgn (sm x k) * sm x k ∧ (∀ j : Int, 0 ≤ j → j < k → (if 0 < x j then x j else -x j) = sgn (sm x k) * x j) ∧ (sum ≠ 0 → le = (if sm x k < 0 then 1 else 0)) := by
      rcases l2 with e | e
      · have hp := l5 e
        have e1 : sm (fun j => if 0 < x j then x j else -x j) k = sm x k := sm_congr fun j j0 j1 => by
          have := hp j (by omega) j1
          show (if 0 < x j then x j else -x j) = x j
          split <;> omega
        have h0 := sm_nn (f := x) (n := k) (fun j j0 j1 => hp j (by omega) j1) (by omega)
        have e2 : sgn (sm x k) = 1 := if_neg (by omega)
        rw [e2, Int.one_mul]
        refine ⟨by omega, fun j j0 j1 => ?_, fun _ => by rw [if_neg (by omega)]; exact e⟩
        have := hp j (by omega) j1
        rw [Int.one_mul]
        split <;> omega
      · have hm : mo = 0 := by
          rcases l1 with q | q
          · exact q
          · have := l3 q; omega
        have hp := l4 hm
        have e1 : sm (fun j => if 0 < x j then x j else -x j) k = (-1) * sm x k := by
          rw [← sm_mulL (by omega)]
          exact sm_congr fun j j0 j1 => by
            have := hp j (by omega) j1
            show (if 0 < x j then x j else -x j) = (-1) * x j
            split <;> omega
        obtain ⟨j, hj, hj2⟩ := l7 e
        have h0 := sm_pos (f := fun j => if 0 < x j then x j else -x j) (n := k) (j := j) (fun i i0 i1 => (ab i i0 i1).1) (by omega) hj.2 (by
          show 0 < (if 0 < x j then x j else -x j)
          split <;> omega)
        have e2 : sgn (sm x k) = -1 := if_pos (by omega)
        rw [e2]
        refine ⟨by omega, fun j j0 j1 => ?_, fun _ => by rw [if_pos (by omega)]; exact e⟩
        have := hp j (by omega) j1
        split <;> omega
    have fz : ∀ z : Int, z ≠ g → z ≠ g + 10 → updm (updm m g 13 le) g 16 sum z = μ z := fun z z0 z1 => by rw [ru_ne z0, ru_ne z0]; exact hf z z1
    have ff : ∀ f : Int, f ≠ 13 → f ≠ 16 → updm (updm m g 13 le) g 16 sum g f = μ g f := fun f f0 f1 => by rw [ru_eq, r1_ne f1, ru_eq, r1_ne f0, hf g (by omega)]
    have nn : sgn (sm x k) * sm x k = 0 → sm x k = 0 := fun q => by
      unfold sgn at q
      split at q <;> omega
    refine ⟨fun c => hR _ 0 ⟨fz, ff, Or.inl ⟨rfl, fun q => q.1 (nn (by omega))⟩⟩, fun c => hR _ 1 ⟨fz, ff, Or.inr ⟨rfl, ⟨fun q => c (by rw [core.1, q, Int.mul_zero]), fun j j0 j1 => by rw [← core.2.1 j j0 j1]; exact (ab j j0 j1).1⟩, ?_, ?_, fun j j0 j1 => ?_⟩⟩⟩
    · rw [ru_eq, r1_ne (by omega), ru_eq, r1_eq]; exact core.2.2 c
    · rw [ru_eq, r1_eq]; exact core.1
    · rw [ru_ne (by omega), ru_ne (by omega), hs j (by omega) j1]; exact core.2.1 j j0 j1
  have key : ∀ i : Int, -1 ≤ i → i ≤ k - 1 → ∀ (m : Mem) (sum mo le rk : Int), (∀ z : Int, z ≠ g + 10 → m z = μ z) → (∀ j : Int, i < j → j < k → m (g + 10) j = if 0 < x j then x j else -x j) → sum = sm (fun j => if 0 < x j then x j else -x j) k - sm (fun j => if 0 < x j then x j else -x j) (i + 1) → LE k x mo le i → (0 ≤ i → rk = rkV (k - 1) (fun l => μ (g + 5) (ski i l))) → V_X0_weighRows R 22 [(0, kR g), (1, kI k), (2, kL sum), (4, kI mo), (5, kI le), (6, kI rk), (7, kI i)] m := by
    refine dn_ind (P := fun i => ∀ (m : Mem) (sum mo le rk : Int), (∀ z : Int, z ≠ g + 10 → m z = μ z) → (∀ j : Int, i < j → j < k → m (g + 10) j = if 0 < x j then x j else -x j) → sum = sm (fun j => if 0 < x j then x j else -x j) k - sm (fun j => if 0 < x j then x j else -x j) (i + 1) → LE k x mo le i → (0 ≤ i → rk = rkV (k - 1) (fun l => μ (g + 5) (ski i l))) → V_X0_weighRows R 22 [(0, kR g), (1, kI k), (2, kL sum), (4, kI mo), (5, kI le), (6, kI rk), (7, kI i)] m) ?_ ?_
    · intro i i0 i1 ih m sum mo le rk hf hs hsum hle hrk
      have hrk := hrk (by omega)
      subst hrk
      have hi := hbd i (by omega) (by omega)
      have hrb := rk_bd (Pk_skip hrp hk.2 (show 0 ≤ i by omega)) hN.2 (by omega) (by omega)
      have hi0 : 0 ≤ i := by omega
      have hi4 : i < 4 := by omega
      have e7 : m (g + 7) = μ (g + 7) := hf _ (by omega)
      have hp := hpt i (by omega) (by omega)
      have es : sm (fun j => if 0 < x j then x j else -x j) (i + 1) = sm (fun j => if 0 < x j then x j else -x j) i + (if 0 < x i then x i else -x i) := sm_s (by omega)
      -- behind the sign
      have c121 : ∀ mo' le' : Int, LE k x mo' le' (i - 1) → V_X0_weighRows R 121 [(0, kR g), (1, kI k), (2, kL sum), (4, kI mo'), (5, kI le'), (6, kI (rkV (k - 1) (fun l => μ (g + 5) (ski i l)))), (7, kI i)] (updm m (g + 10) i (if 0 < x i then x i else -x i)) := by
        intro mo' le' hle'
        have hf2 : ∀ z : Int, z ≠ g + 10 → updm m (g + 10) i (if 0 < x i then x i else -x i) z = μ z := fun z hz => by rw [ru_ne hz]; exact hf z hz
        have hs2 : ∀ j : Int, i - 1 < j → j < k → updm m (g + 10) i (if 0 < x i then x i else -x i) (g + 10) j = if 0 < x j then x j else -x j := fun j j0 j1 => by
          rw [ru_eq]
          by_cases e : j = i
          · rw [e, r1_eq]
          · rw [r1_ne e]; exact hs j (by omega) j1
        have x10 := hs2 i (by omega) (by omega)
        have x5 := hf2 (g + 5) (by omega)
        have x6 := hf2 (g + 6) (by omega)
        generalize updm m (g + 10) i (if 0 < x i then x i else -x i) = m2 at hf2 hs2 x10 x5 x6
        have ei : i - 1 + 1 = i := by omega
        refine vc_X0_weighRows_121 hg ?_
        rw [x10, x5, x6]
        refine ⟨by omega, rr (by omega), fun c => ih m2 _ mo' le' _ hf2 hs2 (by rw [ei]; omega) hle' (fun c2 => absurd c2 (by omega)), fun c => ?_⟩
        have h1 := Pk_at hrp hk.2 (show 0 ≤ i by omega) (by omega)
        have h2 := Pk_at hrp hk.2 (show 0 ≤ i - 1 by omega) (by omega)
        refine ⟨by omega, by omega, by omega, by omega, ih m2 _ mo' le' _ hf2 hs2 (by rw [ei]; omega) hle' (fun _ => ?_)⟩
        rw [rk_step (by omega) (by omega), hb.2.2.2.2 i (μ (g + 5) i) (by omega) (by omega) (by omega) (by omega), hb.2.2.2.2 i (μ (g + 5) (i - 1)) (by omega) (by omega) (by omega) (by omega)]
      have c97 : ∀ mo' le' : Int, (mo' = 0 ∨ mo' = 1) → (le' = 0 ∨ le' = 1) → (mo' = 1 ↔ mo = 1 ∨ 0 < x i) → (le' = 1 ↔ le = 1 ∨ x i < 0) → V_X0_weighRows R 97 [(0, kR g), (1, kI k), (2, kL sum), (4, kI mo'), (5, kI le'), (6, kI (rkV (k - 1) (fun l => μ (g + 5) (ski i l)))), (7, kI i), (8, kL (x i))] m := by
        intro mo' le' a1 a2 a3 a4
        obtain ⟨l1, l2, l3, l4, l5, l6, l7⟩ := hle
        have pos : mo' = 1 → ∃ j, (i - 1 < j ∧ j < k) ∧ 0 < x j := fun q => by
          rcases a3.mp q with q | q
          · obtain ⟨j, hj, hj2⟩ := l6 q; exact ⟨j, by omega, hj2⟩
          · exact ⟨i, by omega, q⟩
        have neg : le' = 1 → ∃ j, (i - 1 < j ∧ j < k) ∧ x j < 0 := fun q => by
          rcases a4.mp q with q | q
          · obtain ⟨j, hj, hj2⟩ := l7 q; exact ⟨j, by omega, hj2⟩
          · exact ⟨i, by omega, q⟩
        have rest : (mo' = 1 → le' = 0) → LE k x mo' le' (i - 1) := fun q => ⟨a1, a2, q, fun c j j0 j1 => by
            by_cases e : j = i
            · subst e
              by_cases e2 : 0 < x j
              · have := a3.mpr (Or.inr e2); omega
              · omega
            · refine l4 ?_ j (by omega) j1
              rcases l1 with e2 | e2
              · exact e2
              · have := a3.mpr (Or.inl e2); omega, fun c j j0 j1 => by
            by_cases e : j = i
            · subst e
              by_cases e2 : x j < 0
              · have := a4.mpr (Or.inr e2); omega
              · omega
            · refine l5 ?_ j (by omega) j1
              rcases l2 with e2 | e2
              · exact e2
              · have := a4.mpr (Or.inl e2); omega, pos, neg⟩
        have rmo : r32 mo' := rr (by rcases a1 with q | q <;> rw [q] <;> decide)
        have rle : r32 le' := rr (by rcases a2 with q | q <;> rw [q] <;> decide)
        have rxi : r64 (x i) := rl ⟨Int.le_trans (by decide) hi.1, Int.le_trans hi.2 (by decide)⟩
        have ii : 0 ≤ i ∧ i < 4 := ⟨hi0, hi4⟩
        refine vc_X0_weighRows_97 hg ⟨rmo, fun c => ⟨rxi, ii, c121 mo' le' (rest (fun q => absurd (q.symm.trans c) (by decide)))⟩, fun c => ⟨rle, fun c2 => ⟨rxi, ii, c121 mo' le' (rest (fun _ => c2))⟩, fun c2 => ?_⟩⟩
        obtain ⟨a, ha, ha2⟩ := pos (a1.resolve_left c)
        obtain ⟨b, hb, hb2⟩ := neg (a2.resolve_left c2)
        clear pos neg rest l6 l7
        exact hR m 0 ⟨fun z z0 z1 => hf z z1, fun f _ _ => by rw [hf g (by omega)], Or.inl ⟨rfl, both ⟨a, by omega, ha2⟩ ⟨b, by omega, hb2⟩⟩⟩
      have c59 : V_X0_weighRows R 59 [(0, kR g), (1, kI k), (2, kL sum), (4, kI mo), (5, kI le), (6, kI (rkV (k - 1) (fun l => μ (g + 5) (ski i l)))), (7, kI i), (8, kL (x i))] m := by
        have l1 := hle.1
        have l2 := hle.2.1
        refine vc_X0_weighRows_59 hg ⟨rr (by omega), fun c => ⟨rr (by omega), fun c2 => c97 1 1 (by omega) (by omega) (by omega) (by omega), fun c2 => ⟨rl (by omega), fun c3 => c97 1 0 (by omega) (by omega) (by omega) (by omega), fun c3 => c97 1 1 (by omega) (by omega) (by omega) (by omega)⟩⟩, fun c => ⟨rl (by omega), fun c2 => ⟨rr (by omega), fun c3 => c97 0 1 (by omega) (by omega) (by omega) (by omega), fun c3 => ⟨rl (by omega), fun c4 => c97 0 0 (by omega) (by omega) (by omega) (by omega), fun c4 => c97 0 1 (by omega) (by omega) (by omega) (by omega)⟩⟩, fun c2 => ⟨rr (by omega), fun c3 => c97 1 1 (by omega) (by omega) (by omega) (by omega), fun c3 => ⟨rl (by omega), fun c4 => c97 1 0 (by omega) (by omega) (by omega) (by omega), fun c4 => c97 1 1 (by omega) (by omega) (by omega) (by omega)⟩⟩⟩⟩
      refine vc_X0_weighRows_22 hg ?_
      rw [e7, b_odd (show 0 ≤ k - 1 - i by omega) (by omega)]
      refine ⟨rr (by omega), fun c => absurd c (by omega), fun _ => ⟨rr (by omega), fun c => ⟨hrb, ?_⟩, fun c => ⟨hrb, ?_⟩⟩⟩
      · rw [if_neg c] at hp
        rw [← hp]; exact c59
      · rw [if_pos (Classical.byContradiction c)] at hp
        rw [← hp]; exact c59
    · intro m sum mo le rk hf hs hsum hle _
      have l2 := hle.2.1
      have e0 : sm (fun j => if 0 < x j then x j else -x j) (-1 + 1) = 0 := rfl
      rw [e0, Int.sub_zero] at hsum
      exact vc_X0_weighRows_22 hg ⟨rr (by omega), fun _ => ⟨by omega, fin m sum le mo hf hs hsum hle⟩, fun c => absurd (show (-1 : Int) < 0 by omega) c⟩
  refine vc_X0_weighRows_0 hg ⟨⟨hg, by omega, fun i i0 i1 => by
    have := Pk_at hrp hk.2 i0 (by omega)
    omega, hb.2.2.2.2⟩, key (k - 1) (by omega) (Int.le_refl _) μ 0 0 0 _ (fun _ _ => rfl) (fun j j0 j1 => absurd j1 (by omega)) ?_ ⟨Or.inl rfl, Or.inl rfl, fun c => by omega, fun _ j j0 j1 => absurd j1 (by omega), fun _ j j0 j1 => absurd j1 (by omega), fun c => by omega, fun c => by omega⟩ (fun _ => ?_)⟩
  · have e : k - 1 + 1 = k := by omega
    rw [e]; omega
  · exact rk_congr fun l l0 l1 => by rw [ski_lt l1]
theorem ct_X0_weighRows : Ct mX0_weighRows 1 23 0 0 (nrmS S_X0_weighRows) := by
  refine ct_vm (own := RX0) (by decide +kernel) rfl ?_ ?_
  · intro as μ Q hS
    unfold S_X0_weighRows at hS
    split at hS
    · exact Nat.le_of_ble_eq_true rfl
    · exact hS.elim
  · intro as μ R hS
    unfold S_X0_weighRows at hS
    split at hS
    · exact body_X0_weighRows hS.1 hS.2
    · exact hS.elim
theorem minAt_frame {μ m : Mem} {g l c : Int} (h2 : m (g + 2) = μ (g + 2)) (h4 : m (g + 4) = μ (g + 4)) (h5 : m (g + 5) = μ (g + 5)) : F_X0_minuteAt g l c m = Fm μ g (μ (g + 4) l) (μ (g + 5) c) := by
  unfold F_X0_minuteAt Fm
  rw [h2, h4, h5]
theorem minAt_P {μ m : Mem} {g l c k : Int} (hb : GB μ g) (hk : 1 ≤ k ∧ k ≤ 4) (hcp : Pk k (μ g 0) (μ (g + 4))) (hl : 0 ≤ l ∧ l < k) (hc : 0 ≤ c ∧ c < 4) (hr : 0 ≤ m (g + 5) c ∧ m (g + 5) c < 24) (h2 : m (g + 2) = μ (g + 2)) (h4 : m (g + 4) = μ (g + 4)) : P_X0_minuteAt g l c m := by
  have h1 := Pk_at hcp hk.2 hl.1 hl.2
  have hn := hb.2.1
  have h3 := hb.2.2.2.1 (μ (g + 4) l) (m (g + 5) c) (by omega) (by omega) hr.1 hr.2
  refine ⟨hb.1, by omega, hc, by rw [h4]; omega, hr, ?_⟩
  rw [h4, Fm_frame h2]
  exact rr (by omega)
def P_X0_weighCells (g k : Int) (μ : Mem) : Prop := GB μ g ∧ (1 ≤ k ∧ k ≤ 4) ∧ Pk k (μ g 0) (μ (g + 4)) ∧ Pk k (μ g 1) (μ (g + 5)) ∧ (μ g 13 = 0 ∨ μ g 13 = 1)
def trn (x : Int) : Int := if x = 1 then -1 else 1
def Q_X0_weighCells (g k : Int) (μ μ' : Mem) (r : Int) : Prop := (∀ z : Int, z ≠ g + 8 → z ≠ g + 9 → μ' z = μ z) ∧
  ((r = 0 ∧ ∃ i : Int, (0 ≤ i ∧ i < k) ∧ trn (μ g 13) * kerC (Fm μ g) k (μ (g + 4)) (μ (g + 5)) i < 0) ∨ (r = 1 ∧ ∀ i : Int, 0 ≤ i → i < k → 0 ≤ trn (μ g 13) * kerC (Fm μ g) k (μ (g + 4)) (μ (g + 5)) i ∧ μ' (g + 9) i = trn (μ g 13) * kerC (Fm μ g) k (μ (g + 4)) (μ (g + 5)) i))
def S_X0_weighCells : S0t := fun as μ Q => match as with
  | [(2, x0), (0, x1)] => P_X0_weighCells x0 x1 μ ∧ ∀ (μ' : Mem) (r : Int), Q_X0_weighCells x0 x1 μ μ' r → Q μ' (some (kI r))
  | _ => False
theorem mono_X0_weighCells : Mono S_X0_weighCells := by
  intro as μ Q Q' h hS
  unfold S_X0_weighCells at hS ⊢
  split at hS
  · exact ⟨hS.1, fun μ' r q => h _ _ (hS.2 _ _ q)⟩
  · exact hS.elim
def iX0_weighCells : Inf := (kX0_weighCells, fTX0, pTX0, cTX0, lTX0, sTX0, [(133, 1, 2, 0, S_X10_determinant), (129, 0, 2, 0, S_X0_minuteAt)])
theorem ok_X0_weighCells : infOK iX0_weighCells mX0_weighCells RX0 1 22 := ⟨kkX0_weighCells, fTX0_ok, pTX0_ok _, cTX0_ok, lTX0_ok, sTX0_ok, c_cons ⟨mX10_determinant, 0, 0, ct_X10_determinant, mmX10_determinant, stX10_determinant, lkX0_133, ⟨by decide, by decide⟩, mono_X10_determinant⟩ (c_cons ⟨mX0_minuteAt, 0, 0, ct_X0_minuteAt, mmX0_minuteAt, vvX0_minuteAt, lkX0_129, ⟨by decide, by decide⟩, ⟨_, _, rfl⟩, by decide, mono_X0_minuteAt⟩ (c_nil))⟩
theorem mt_X0_weighCells : mtOK [] RX0 1 22 := mt_nil
abbrev V_X0_weighCells (R : Mem → Option AV → Prop) (pc : Nat) (lc : List (Nat × AV)) (μ : Mem) : Prop := VM mX0_weighCells RX0 1 22 R pc lc [] μ
set_option maxRecDepth 20000 in
theorem vc_X0_weighCells_0 {R : Mem → Option AV → Prop} {k g : Int} {μ : Mem} (hg : isG g) (H : V_X0_weighCells R 2 [(0, kR g), (1, kI k), (2, kI 0)] μ) : V_X0_weighCells R 0 [(0, kR g), (1, kI k)] μ := by
  refine vm_step2 mt_X0_weighCells ok_X0_weighCells [(2, [0, 1, 2]), (9, [0, 1, 2, 3]), (33, [0, 1, 2, 3, 4, 5]), (68, [0, 1, 2, 3, 4, 5]), (122, [0, 1, 2])] 1000 ?_
  show V_X0_weighCells R 2 [(0, kR g), (1, kI k), (2, kI 0)] μ
  exact H
set_option maxRecDepth 20000 in
theorem vc_X0_weighCells_2 {R : Mem → Option AV → Prop} {k i g : Int} {μ : Mem} (hg : isG g) (H : r32 i ∧ r32 k ∧ ((k ≤ i) → R μ (some (kI 1))) ∧ (¬ (k ≤ i) → V_X0_weighCells R 9 [(0, kR g), (1, kI k), (2, kI i), (3, kI 0)] μ)) : V_X0_weighCells R 2 [(0, kR g), (1, kI k), (2, kI i)] μ := by
  refine vm_step2 mt_X0_weighCells ok_X0_weighCells [(2, [0, 1, 2]), (9, [0, 1, 2, 3]), (33, [0, 1, 2, 3, 4, 5]), (68, [0, 1, 2, 3, 4, 5]), (122, [0, 1, 2])] 1000 ?_
  show (r32 i ∧ r32 k) ∧ ((k ≤ i) → (0 ≤ (1 : Int) ∧ (1 : Int) ≤ 1) ∧ R μ (some (kI 1))) ∧ (¬ (k ≤ i) → V_X0_weighCells R 9 [(0, kR g), (1, kI k), (2, kI i), (3, kI 0)] μ)
  exact ⟨⟨H.1, H.2.1⟩, fun hc1 => ⟨⟨by omega, by omega⟩, (H.2.2.1 hc1)⟩, fun hc1 => (H.2.2.2 hc1)⟩
set_option maxRecDepth 20000 in
theorem vc_X0_weighCells_9 {R : Mem → Option AV → Prop} {k i l g : Int} {μ : Mem} (hg : isG g) (H : r32 l ∧ r32 (k - 1) ∧ (((k - 1) ≤ l) → P_X10_determinant (g + 8) (k - 1) μ ∧ r32 (band i 1) ∧ ((¬ (band i 1) = (1 : Int)) → r32 (μ g 13) ∧ (((0 : Int) = (μ g 13)) → (0 ≤ i ∧ i < 4) ∧ V_X0_weighCells R 122 [(0, kR g), (1, kI k), (2, kI i)] (updm μ (g + 9) i (F_X10_determinant (g + 8) (k - 1) μ))) ∧ (¬ ((0 : Int) = (μ g 13)) → (0 ≤ i ∧ i < 4) ∧ V_X0_weighCells R 122 [(0, kR g), (1, kI k), (2, kI i)] (updm μ (g + 9) i (-(F_X10_determinant (g + 8) (k - 1) μ))))) ∧ (¬ (¬ (band i 1) = (1 : Int)) → r32 (μ g 13) ∧ (((1 : Int) = (μ g 13)) → (0 ≤ i ∧ i < 4) ∧ V_X0_weighCells R 122 [(0, kR g), (1, kI k), (2, kI i)] (updm μ (g + 9) i (F_X10_determinant (g + 8) (k - 1) μ))) ∧ (¬ ((1 : Int) = (μ g 13)) → (0 ≤ i ∧ i < 4) ∧ V_X0_weighCells R 122 [(0, kR g), (1, kI k), (2, kI i)] (updm μ (g + 9) i (-(F_X10_determinant (g + 8) (k - 1) μ)))))) ∧ (¬ ((k - 1) ≤ l) → r32 l ∧ r32 i ∧ ((i ≤ l) → V_X0_weighCells R 33 [(0, kR g), (1, kI k), (2, kI i), (3, kI l), (4, kI (l + 1)), (5, kI 1)] μ) ∧ (¬ (i ≤ l) → V_X0_weighCells R 33 [(0, kR g), (1, kI k), (2, kI i), (3, kI l), (4, kI l), (5, kI 1)] μ))) : V_X0_weighCells R 9 [(0, kR g), (1, kI k), (2, kI i), (3, kI l)] μ := by
  refine vm_step2 mt_X0_weighCells ok_X0_weighCells [(2, [0, 1, 2]), (9, [0, 1, 2, 3]), (33, [0, 1, 2, 3, 4, 5]), (68, [0, 1, 2, 3, 4, 5]), (122, [0, 1, 2])] 1000 ?_
  show (r32 l ∧ r32 (k - 1)) ∧ (((k - 1) ≤ l) → isC g 0 ∧ P_X10_determinant (g + 8) (k - 1) μ ∧ isC g 0 ∧ (r32 (band i 1) ∧ r32 (1 : Int)) ∧ ((¬ (band i 1) = (1 : Int)) → isC g 0 ∧ (r32 (0 : Int) ∧ r32 (μ g 13)) ∧ (((0 : Int) = (μ g 13)) → inA (g + 9) 1 i ∧ V_X0_weighCells R 122 [(0, kR g), (1, kI k), (2, kI i)] (updm μ (g + 9) i (F_X10_determinant (g + 8) (k - 1) μ))) ∧ (¬ ((0 : Int) = (μ g 13)) → inA (g + 9) 1 i ∧ V_X0_weighCells R 122 [(0, kR g), (1, kI k), (2, kI i)] (updm μ (g + 9) i (-(F_X10_determinant (g + 8) (k - 1) μ))))) ∧ (¬ (¬ (band i 1) = (1 : Int)) → isC g 0 ∧ (r32 (1 : Int) ∧ r32 (μ g 13)) ∧ (((1 : Int) = (μ g 13)) → inA (g + 9) 1 i ∧ V_X0_weighCells R 122 [(0, kR g), (1, kI k), (2, kI i)] (updm μ (g + 9) i (F_X10_determinant (g + 8) (k - 1) μ))) ∧ (¬ ((1 : Int) = (μ g 13)) → inA (g + 9) 1 i ∧ V_X0_weighCells R 122 [(0, kR g), (1, kI k), (2, kI i)] (updm μ (g + 9) i (-(F_X10_determinant (g + 8) (k - 1) μ)))))) ∧ (¬ ((k - 1) ≤ l) → (r32 l ∧ r32 i) ∧ ((i ≤ l) → V_X0_weighCells R 33 [(0, kR g), (1, kI k), (2, kI i), (3, kI l), (4, kI (l + 1)), (5, kI 1)] μ) ∧ (¬ (i ≤ l) → V_X0_weighCells R 33 [(0, kR g), (1, kI k), (2, kI i), (3, kI l), (4, kI l), (5, kI 1)] μ))
  exact ⟨⟨H.1, H.2.1⟩, fun hc6 => ⟨isG_C hg, ⟨(H.2.2.1 hc6).1, ⟨isG_C hg, ⟨⟨(H.2.2.1 hc6).2.1, by unfold r32; omega⟩, fun hc4 => ⟨isG_C hg, ⟨⟨by unfold r32; omega, ((H.2.2.1 hc6).2.2.1 hc4).1⟩, fun hc2 => ⟨isArr.in (Gm_cellShare hg) (((H.2.2.1 hc6).2.2.1 hc4).2.1 hc2).1.1 (((H.2.2.1 hc6).2.2.1 hc4).2.1 hc2).1.2, (((H.2.2.1 hc6).2.2.1 hc4).2.1 hc2).2⟩, fun hc2 => ⟨isArr.in (Gm_cellShare hg) (((H.2.2.1 hc6).2.2.1 hc4).2.2 hc2).1.1 (((H.2.2.1 hc6).2.2.1 hc4).2.2 hc2).1.2, (((H.2.2.1 hc6).2.2.1 hc4).2.2 hc2).2⟩⟩⟩, fun hc4 => ⟨isG_C hg, ⟨⟨by unfold r32; omega, ((H.2.2.1 hc6).2.2.2 hc4).1⟩, fun hc3 => ⟨isArr.in (Gm_cellShare hg) (((H.2.2.1 hc6).2.2.2 hc4).2.1 hc3).1.1 (((H.2.2.1 hc6).2.2.2 hc4).2.1 hc3).1.2, (((H.2.2.1 hc6).2.2.2 hc4).2.1 hc3).2⟩, fun hc3 => ⟨isArr.in (Gm_cellShare hg) (((H.2.2.1 hc6).2.2.2 hc4).2.2 hc3).1.1 (((H.2.2.1 hc6).2.2.2 hc4).2.2 hc3).1.2, (((H.2.2.1 hc6).2.2.2 hc4).2.2 hc3).2⟩⟩⟩⟩⟩⟩⟩, fun hc6 => ⟨⟨(H.2.2.2 hc6).1, (H.2.2.2 hc6).2.1⟩, fun hc5 => ((H.2.2.2 hc6).2.2.1 hc5), fun hc5 => ((H.2.2.2 hc6).2.2.2 hc5)⟩⟩
set_option maxRecDepth 20000 in
theorem vc_X0_weighCells_33 {R : Mem → Option AV → Prop} {k i l ot c g : Int} {μ : Mem} (hg : isG g) (H : r32 c ∧ r32 k ∧ ((k ≤ c) → V_X0_weighCells R 9 [(0, kR g), (1, kI k), (2, kI i), (3, kI (l + 1))] μ) ∧ (¬ (k ≤ c) → P_X0_minuteAt g ot c μ ∧ P_X0_minuteAt g ot 0 μ ∧ (0 ≤ (((l * 3) + c) - 1) ∧ (((l * 3) + c) - 1) < 9) ∧ V_X0_weighCells R 68 [(0, kR g), (1, kI k), (2, kI i), (3, kI l), (4, kI ot), (5, kI c)] (updm μ (g + 8) (((l * 3) + c) - 1) ((F_X0_minuteAt g ot c μ) - (F_X0_minuteAt g ot 0 μ))))) : V_X0_weighCells R 33 [(0, kR g), (1, kI k), (2, kI i), (3, kI l), (4, kI ot), (5, kI c)] μ := by
  refine vm_step2 mt_X0_weighCells ok_X0_weighCells [(2, [0, 1, 2]), (9, [0, 1, 2, 3]), (33, [0, 1, 2, 3, 4, 5]), (68, [0, 1, 2, 3, 4, 5]), (122, [0, 1, 2])] 1000 ?_
  show (r32 c ∧ r32 k) ∧ ((k ≤ c) → V_X0_weighCells R 9 [(0, kR g), (1, kI k), (2, kI i), (3, kI (l + 1))] μ) ∧ (¬ (k ≤ c) → isC g 0 ∧ isC g 0 ∧ P_X0_minuteAt g ot c μ ∧ isC g 0 ∧ P_X0_minuteAt g ot 0 μ ∧ inA (g + 8) 1 (((l * 3) + c) - 1) ∧ V_X0_weighCells R 68 [(0, kR g), (1, kI k), (2, kI i), (3, kI l), (4, kI ot), (5, kI c)] (updm μ (g + 8) (((l * 3) + c) - 1) ((F_X0_minuteAt g ot c μ) - (F_X0_minuteAt g ot 0 μ))))
  exact ⟨⟨H.1, H.2.1⟩, fun hc7 => (H.2.2.1 hc7), fun hc7 => ⟨isG_C hg, ⟨isG_C hg, (H.2.2.2 hc7).1, ⟨isG_C hg, (H.2.2.2 hc7).2.1, ⟨isArr.in (Gm_square hg) (H.2.2.2 hc7).2.2.1.1 (H.2.2.2 hc7).2.2.1.2, (H.2.2.2 hc7).2.2.2⟩⟩⟩⟩⟩
set_option maxRecDepth 20000 in
theorem vc_X0_weighCells_68 {R : Mem → Option AV → Prop} {k i l ot c g : Int} {μ : Mem} (hg : isG g) (H : V_X0_weighCells R 33 [(0, kR g), (1, kI k), (2, kI i), (3, kI l), (4, kI ot), (5, kI (c + 1))] μ) : V_X0_weighCells R 68 [(0, kR g), (1, kI k), (2, kI i), (3, kI l), (4, kI ot), (5, kI c)] μ := by
  refine vm_step2 mt_X0_weighCells ok_X0_weighCells [(2, [0, 1, 2]), (9, [0, 1, 2, 3]), (33, [0, 1, 2, 3, 4, 5]), (68, [0, 1, 2, 3, 4, 5]), (122, [0, 1, 2])] 1000 ?_
  show V_X0_weighCells R 33 [(0, kR g), (1, kI k), (2, kI i), (3, kI l), (4, kI ot), (5, kI (c + 1))] μ
  exact H
set_option maxRecDepth 20000 in
theorem vc_X0_weighCells_122 {R : Mem → Option AV → Prop} {k i g : Int} {μ : Mem} (hg : isG g) (H : (0 ≤ i ∧ i < 4) ∧ r64 (μ (g + 9) i) ∧ (((0 : Int) ≤ (μ (g + 9) i)) → V_X0_weighCells R 2 [(0, kR g), (1, kI k), (2, kI (i + 1))] μ) ∧ (¬ ((0 : Int) ≤ (μ (g + 9) i)) → R μ (some (kI 0)))) : V_X0_weighCells R 122 [(0, kR g), (1, kI k), (2, kI i)] μ := by
  refine vm_step2 mt_X0_weighCells ok_X0_weighCells [(2, [0, 1, 2]), (9, [0, 1, 2, 3]), (33, [0, 1, 2, 3, 4, 5]), (68, [0, 1, 2, 3, 4, 5]), (122, [0, 1, 2])] 1000 ?_
  show isC g 0 ∧ inA (g + 9) 1 i ∧ (r64 (μ (g + 9) i) ∧ r64 (0 : Int)) ∧ r32 (lcm3 (μ (g + 9) i) (0 : Int)) ∧ ((0 ≤ lcm3 (μ (g + 9) i) (0 : Int)) → V_X0_weighCells R 2 [(0, kR g), (1, kI k), (2, kI (i + 1))] μ) ∧ (¬ (0 ≤ lcm3 (μ (g + 9) i) (0 : Int)) → (0 ≤ (0 : Int) ∧ (0 : Int) ≤ 1) ∧ R μ (some (kI 0)))
  exact ⟨isG_C hg, ⟨isArr.in (Gm_cellShare hg) H.1.1 H.1.2, ⟨⟨H.2.1, by unfold r64; omega⟩, lcm3_r _ _, fun hc8 => (H.2.2.1 (lcm_ge.mp hc8)), fun hc8 => ⟨⟨by omega, by omega⟩, (H.2.2.2 (fun q => hc8 (lcm_ge.mpr q)))⟩⟩⟩⟩
theorem body_X0_weighCells {g k : Int} {μ : Mem} {R : Mem → Option AV → Prop} (h : P_X0_weighCells g k μ) (hR : ∀ (μ' : Mem) (r : Int), Q_X0_weighCells g k μ μ' r → R μ' (some (kI r))) : V_X0_weighCells R 0 [(0, kR g), (1, kI k)] μ := by
  obtain ⟨hb, hk, hcp, hrp, h13⟩ := h
  have hg := hb.1
  have hg2 := isG_two hg
  have hn := hb.2.1
  have hN := hb.2.2.1
  have hbd : ∀ j : Int, 0 ≤ j → j < k → -1053696000 ≤ kerC (Fm μ g) k (μ (g + 4)) (μ (g + 5)) j ∧ kerC (Fm μ g) k (μ (g + 4)) (μ (g + 5)) j ≤ 1053696000 := fun j j0 j1 => kerC_bd hk.1 hk.2 j0 (fun a b a0 a1 b0 b1 => by
    have h1 := Pk_at hcp hk.2 a0 a1
    have h2 := Pk_at hrp hk.2 b0 b1
    exact hb.2.2.2.1 _ _ (by omega) (by omega) (by omega) (by omega))
  have pi : ∀ i : Int, 0 ≤ i → i ≤ k → ∀ m : Mem, (∀ z : Int, z ≠ g + 8 → z ≠ g + 9 → m z = μ z) → (∀ j : Int, 0 ≤ j → j < i → 0 ≤ trn (μ g 13) * kerC (Fm μ g) k (μ (g + 4)) (μ (g + 5)) j ∧ m (g + 9) j = trn (μ g 13) * kerC (Fm μ g) k (μ (g + 4)) (μ (g + 5)) j) → V_X0_weighCells R 2 [(0, kR g), (1, kI k), (2, kI i)] m := by
    refine up_ind (P := fun i => ∀ m : Mem, (∀ z : Int, z ≠ g + 8 → z ≠ g + 9 → m z = μ z) → (∀ j : Int, 0 ≤ j → j < i → 0 ≤ trn (μ g 13) * kerC (Fm μ g) k (μ (g + 4)) (μ (g + 5)) j ∧ m (g + 9) j = trn (μ g 13) * kerC (Fm μ g) k (μ (g + 4)) (μ (g + 5)) j) → V_X0_weighCells R 2 [(0, kR g), (1, kI k), (2, kI i)] m) ?_ ?_
    · intro i i0 i1 ih m hf hq
      refine vc_X0_weighCells_2 hg ⟨rr (by omega), rr (by omega), fun c => absurd c (by omega), fun _ => ?_⟩
      -- the lines
      have pl : ∀ l : Int, 0 ≤ l → l ≤ k - 1 → ∀ m : Mem, (∀ z : Int, z ≠ g + 8 → z ≠ g + 9 → m z = μ z) → (∀ j : Int, 0 ≤ j → j < i → 0 ≤ trn (μ g 13) * kerC (Fm μ g) k (μ (g + 4)) (μ (g + 5)) j ∧ m (g + 9) j = trn (μ g 13) * kerC (Fm μ g) k (μ (g + 4)) (μ (g + 5)) j) → (∀ l' c' : Int, 0 ≤ l' → l' < l → 0 ≤ c' → c' < k - 1 → m (g + 8) (l' * 3 + c') = Fm μ g (μ (g + 4) (ski i l')) (μ (g + 5) (c' + 1)) - Fm μ g (μ (g + 4) (ski i l')) (μ (g + 5) 0)) → V_X0_weighCells R 9 [(0, kR g), (1, kI k), (2, kI i), (3, kI l)] m := by
        refine up_ind (P := fun l => ∀ m : Mem, (∀ z : Int, z ≠ g + 8 → z ≠ g + 9 → m z = μ z) → (∀ j : Int, 0 ≤ j → j < i → 0 ≤ trn (μ g 13) * kerC (Fm μ g) k (μ (g + 4)) (μ (g + 5)) j ∧ m (g + 9) j = trn (μ g 13) * kerC (Fm μ g) k (μ (g + 4)) (μ (g + 5)) j) → (∀ l' c' : Int, 0 ≤ l' → l' < l → 0 ≤ c' → c' < k - 1 → m (g + 8) (l' * 3 + c') = Fm μ g (μ (g + 4) (ski i l')) (μ (g + 5) (c' + 1)) - Fm μ g (μ (g + 4) (ski i l')) (μ (g + 5) 0)) → V_X0_weighCells R 9 [(0, kR g), (1, kI k), (2, kI i), (3, kI l)] m) ?_ ?_
        · intro l l0 l1 ihl m hf hq hs
          have hsk := ski_in l0 l1 i0
          have pc : ∀ c : Int, 1 ≤ c → c ≤ k → ∀ m : Mem, (∀ z : Int, z ≠ g + 8 → z ≠ g + 9 → m z = μ z) → (∀ j : Int, 0 ≤ j → j < i → 0 ≤ trn (μ g 13) * kerC (Fm μ g) k (μ (g + 4)) (μ (g + 5)) j ∧ m (g + 9) j = trn (μ g 13) * kerC (Fm μ g) k (μ (g + 4)) (μ (g + 5)) j) → (∀ l' c' : Int, 0 ≤ l' → l' < l → 0 ≤ c' → c' < k - 1 → m (g + 8) (l' * 3 + c') = Fm μ g (μ (g + 4) (ski i l')) (μ (g + 5) (c' + 1)) - Fm μ g (μ (g + 4) (ski i l')) (μ (g + 5) 0)) → (∀ c' : Int, 0 ≤ c' → c' < c - 1 → m (g + 8) (l * 3 + c') = Fm μ g (μ (g + 4) (ski i l)) (μ (g + 5) (c' + 1)) - Fm μ g (μ (g + 4) (ski i l)) (μ (g + 5) 0)) → V_X0_weighCells R 33 [(0, kR g), (1, kI k), (2, kI i), (3, kI l), (4, kI (ski i l)), (5, kI c)] m := by
            refine up_ind (P := fun c => ∀ m : Mem, (∀ z : Int, z ≠ g + 8 → z ≠ g + 9 → m z = μ z) → (∀ j : Int, 0 ≤ j → j < i → 0 ≤ trn (μ g 13) * kerC (Fm μ g) k (μ (g + 4)) (μ (g + 5)) j ∧ m (g + 9) j = trn (μ g 13) * kerC (Fm μ g) k (μ (g + 4)) (μ (g + 5)) j) → (∀ l' c' : Int, 0 ≤ l' → l' < l → 0 ≤ c' → c' < k - 1 → m (g + 8) (l' * 3 + c') = Fm μ g (μ (g + 4) (ski i l')) (μ (g + 5) (c' + 1)) - Fm μ g (μ (g + 4) (ski i l')) (μ (g + 5) 0)) → (∀ c' : Int, 0 ≤ c' → c' < c - 1 → m (g + 8) (l * 3 + c') = Fm μ g (μ (g + 4) (ski i l)) (μ (g + 5) (c' + 1)) - Fm μ g (μ (g + 4) (ski i l)) (μ (g + 5) 0)) → V_X0_weighCells R 33 [(0, kR g), (1, kI k), (2, kI i), (3, kI l), (4, kI (ski i l)), (5, kI c)] m) ?_ ?_
            · intro c c0 c1 ihc m hf hq hs hsc
              have e2 := hf (g + 2) (by omega) (by omega)
              have e4 := hf (g + 4) (by omega) (by omega)
              have e5 := hf (g + 5) (by omega) (by omega)
              have h1 := Pk_at hrp hk.2 (show 0 ≤ c by omega) c1
              have h2 := Pk_at hrp hk.2 (Int.le_refl 0) (by omega)
              refine vc_X0_weighCells_33 hg ⟨rr (by omega), rr (by omega), fun q => absurd q (by omega), fun _ => ⟨minAt_P hb hk hcp hsk (by omega) (by rw [e5]; omega) e2 e4, minAt_P hb hk hcp hsk (by omega) (by rw [e5]; omega) e2 e4, by omega, vc_X0_weighCells_68 hg (ihc _ (fun z z0 z1 => by rw [ru_ne z0]; exact hf z z0 z1) (fun j j0 j1 => by rw [ru_ne (by omega)]; exact hq j j0 j1) (fun l' c' x0 x1 x2 x3 => ?_) (fun c' x2 x3 => ?_))⟩⟩
              · rw [ru_eq, r1_ne (by omega)]; exact hs l' c' x0 x1 x2 x3
              · rw [ru_eq, minAt_frame e2 e4 e5, minAt_frame e2 e4 e5]
                by_cases e : c' = c - 1
                · subst e
                  have e6 : l * 3 + (c - 1) = l * 3 + c - 1 := by omega
                  have e7 : c - 1 + 1 = c := by omega
                  rw [e6, r1_eq, e7]
                · rw [r1_ne (by omega)]; exact hsc c' x2 (by omega)
            · intro m hf hq hs hsc
              refine vc_X0_weighCells_33 hg ⟨rr (by omega), rr (by omega), fun _ => ihl m hf hq (fun l' c' x0 x1 x2 x3 => ?_), fun q => absurd (Int.le_refl _) q⟩
              by_cases e : l' = l
              · subst e; exact hsc c' x2 x3
              · exact hs l' c' x0 (by omega) x2 x3
          have go := pc 1 (Int.le_refl _) hk.1 m hf hq hs (fun c' x0 x1 => absurd x1 (by omega))
          refine vc_X0_weighCells_9 hg ⟨rr (by omega), rr (by omega), fun c => absurd c (by omega), fun _ => ⟨rr (by omega), rr (by omega), fun c => ?_, fun c => ?_⟩⟩
          · rw [ski_ge c] at go; exact go
          · rw [ski_lt (by omega)] at go; exact go
        · intro m hf hq hs
          have e13 : m g 13 = μ g 13 := by rw [hf g (by omega) (by omega)]
          have hd : F_X10_determinant (g + 8) (k - 1) m = detV (fun x => Fm μ g (μ (g + 4) (ski i (x / 3))) (μ (g + 5) (x % 3 + 1)) - Fm μ g (μ (g + 4) (ski i (x / 3))) (μ (g + 5) 0)) (k - 1) := by
            refine detV_congr (by omega) (by omega) (fun x x0 x9 c1 c2 => ?_)
            have h := hs (x / 3) (x % 3) (by omega) c2 (by omega) c1
            have e : x / 3 * 3 + x % 3 = x := by omega
            rw [e] at h
            exact h
          have hC := hbd i i0 i1
          have nx : ∀ x : Int, x = trn (μ g 13) * kerC (Fm μ g) k (μ (g + 4)) (μ (g + 5)) i → V_X0_weighCells R 122 [(0, kR g), (1, kI k), (2, kI i)] (updm m (g + 9) i x) := by
            intro x hx
            have hxb : -1053696000 ≤ x ∧ x ≤ 1053696000 := by
              rw [hx]; unfold trn
              split <;> omega
            refine vc_X0_weighCells_122 hg ?_
            rw [ru_eq, r1_eq]
            refine ⟨by omega, rl (by omega), fun c => ih _ (fun z z0 z1 => by rw [ru_ne z1]; exact hf z z0 z1) (fun j j0 j1 => ?_), fun c => hR _ 0 ⟨fun z z0 z1 => by rw [ru_ne z1]; exact hf z z0 z1, Or.inl ⟨rfl, i, ⟨i0, i1⟩, by omega⟩⟩⟩
            by_cases e : j = i
            · subst e
              rw [ru_eq, r1_eq]; exact ⟨by omega, hx⟩
            · rw [ru_eq, r1_ne e]; exact hq j j0 (by omega)
          have kd : kerC (Fm μ g) k (μ (g + 4)) (μ (g + 5)) i = (if i % 2 = 1 then -1 else 1) * F_X10_determinant (g + 8) (k - 1) m := by rw [hd]; rfl
          refine vc_X0_weighCells_9 hg ?_
          rw [e13, b_odd i0 (by omega)]
          refine ⟨rr (by omega), rr (by omega), fun _ => ⟨⟨Gm_square hg, rr (by omega)⟩, rr (by omega), fun c => ⟨rr (by omega), fun c2 => ⟨by omega, nx _ ?_⟩, fun c2 => ⟨by omega, nx _ ?_⟩⟩, fun c => ⟨rr (by omega), fun c2 => ⟨by omega, nx _ ?_⟩, fun c2 => ⟨by omega, nx _ ?_⟩⟩⟩, fun c => absurd (Int.le_refl _) c⟩
          · rw [kd, if_neg c]; unfold trn; rw [if_neg (by omega)]; omega
          · rw [kd, if_neg c]; unfold trn; rw [if_pos (by omega)]; omega
          · rw [kd, if_pos (by omega)]; unfold trn; rw [if_pos (by omega)]; omega
          · rw [kd, if_pos (by omega)]; unfold trn; rw [if_neg (by omega)]; omega
      exact pl 0 (Int.le_refl _) (by omega) m hf hq (fun l' c' x0 x1 => absurd x0 (by omega))
    · intro m hf hq
      exact vc_X0_weighCells_2 hg ⟨rr (by omega), rr (by omega), fun _ => hR m 1 ⟨hf, Or.inr ⟨rfl, hq⟩⟩, fun c => absurd (Int.le_refl _) c⟩
  exact vc_X0_weighCells_0 hg (pi 0 (Int.le_refl _) (by omega) μ (fun _ _ _ => rfl) (fun j j0 j1 => absurd j0 (by omega)))
theorem ct_X0_weighCells : Ct mX0_weighCells 1 22 0 0 (nrmS S_X0_weighCells) := by
  refine ct_vm (own := RX0) (by decide +kernel) rfl ?_ ?_
  · intro as μ Q hS
    unfold S_X0_weighCells at hS
    split at hS
    · exact Nat.le_of_ble_eq_true rfl
    · exact hS.elim
  · intro as μ R hS
    unfold S_X0_weighCells at hS
    split at hS
    · exact body_X0_weighCells hS.1 hS.2
    · exact hS.elim
