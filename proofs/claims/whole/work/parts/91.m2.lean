/-! the model: totals, ways, lists of cellars -/
theorem sm_tail {f : Int → Int} {n m : Int} (h0 : 0 ≤ n) (hnm : n ≤ m) (hz : ∀ i : Int, n ≤ i → i < m → f i = 0) : sm f m = sm f n := by
  refine up_ind (P := fun i => sm f i = sm f n → sm f m = sm f n) (lo := n) (hi := m) (fun i i0 i1 ih q => ih ?_) (fun q => q) n (Int.le_refl n) hnm rfl
  rw [sm_s (by omega), hz i i0 i1, q, Int.add_zero]
theorem all8 {v : TV} (ok : TVok v) : sm (v 4) 8 = sm (v 4) (v 0 0) := by
  have hp := ok.1
  exact sm_tail (by omega) (by omega) fun i i0 i1 => ok.2.2.2.2.1 i i0 i1
theorem MB.v {μ : Mem} (h : MB μ) : TVok (vm μ) := h.2.2.1
theorem vm7_nn {μ : Mem} (ok : TVok (vm μ)) (j : Int) : 0 ≤ vm μ 7 j ∧ vm μ 7 j ≤ 20 := by
  by_cases h : 0 ≤ j ∧ j < 64
  · exact ok.2.2.2.2.2.1 j h.1 h.2
  · have : vm μ 7 j = 0 := if_neg h
    omega
theorem fwI_vm {μ : Mem} (ok : TVok (vm μ)) {inf : Int} (hi : 100 ≤ inf) : (∀ c, fwI inf (vm μ 7) c c = 0) ∧ ∀ a b : Int, 0 ≤ fwI inf (vm μ 7) a b ∧ fwI inf (vm μ 7) a b ≤ inf := by
  refine ⟨fun c => if_pos rfl, fun a b => ?_⟩
  have h := vm7_nn ok (8 * a + b)
  unfold fwI
  by_cases h1 : a = b
  · rw [if_pos h1]; omega
  · rw [if_neg h1]
    by_cases h2 : vm μ 7 (8 * a + b) = 0
    · rw [if_pos h2]; omega
    · rw [if_neg h2]; omega
theorem way_ok {v : TV} (h : VOk v) {a b : Int} (a0 : 0 ≤ a) (a1 : a < v 0 0) (b0 : 0 ≤ b) (b1 : b < v 0 0) : 0 ≤ wayV v a b ∧ wayV v a b ≤ 140 := way_bd h.1 h.2.1 a0 a1 b0 b1
/-- the list of a set's places -/
def CR (μ : Mem) (s : Int) : Prop := μ 201 14 = popc s ∧ ∀ k : Int, 0 ≤ k → k < popc s → μ 205 k = mthV s k
theorem cnt_tail {s n : Int} (h0 : 0 ≤ n) (h8 : n ≤ 8) (hz : ∀ a : Int, n ≤ a → a < 8 → hasB s a = false) : popc s = cntB s n := by
  unfold popc cntB
  exact sm_tail h0 h8 fun i i0 i1 => by rw [hz i i0 i1]; rfl
theorem cntB_mono {s a b : Int} (a0 : 0 ≤ a) (ab : a ≤ b) : cntB s a ≤ cntB s b := by
  refine up_ind (P := fun i => cntB s a ≤ cntB s i → cntB s a ≤ cntB s b) (lo := a) (hi := b) (fun i i0 i1 ih q => ih ?_) (fun q => q) a (Int.le_refl a) ab (Int.le_refl _)
  rw [cntB_s (by omega)]
  split <;> omega
/-- what `looks` leaves -/
def LK (μ : Mem) : Prop := MB μ ∧ Holds2 μ 206 (vm μ 0 0) (wayV (vm μ)) ∧ CR μ (awayV (vm μ))
theorem onM_yes {μ : Mem} {n d : Int} {f : TV → Int} (h : 0 ≤ n ∧ n < μ 202 0) : onT (stM μ).1 n d f = f ((stM μ).1.2.2 n) := by
  unfold onT
  rw [mn_3, if_pos h]
theorem onM_no {μ : Mem} {n d : Int} {f : TV → Int} (h : ¬ (0 ≤ n ∧ n < μ 202 0)) : onT (stM μ).1 n d f = d := by
  unfold onT
  rw [mn_3, if_neg h]
def P_X11_total (o : Int) (μ : Mem) : Prop := o = 201 ∧ MB μ
def F_X11_total (_ : Int) (μ : Mem) : Int := sm (vm μ 4) 8
def S_X11_total : S0t := fun as μ Q => match as with
  | [(2, x0)] => P_X11_total x0 μ ∧ Q μ (some (kI (F_X11_total x0 μ)))
  | _ => False
theorem mono_X11_total : Mono S_X11_total := by
  intro as μ Q Q' h hS
  unfold S_X11_total at hS ⊢
  split at hS
  · exact ⟨hS.1, h _ _ hS.2⟩
  · exact hS.elim
def iX11_total : Inf := (kX11_total, fTX11, pTX11, cTX11, lTX11, sTX11, [(209, 0, 1, 11, S_X11_of)])
theorem ok_X11_total : infOK iX11_total mX11_total RX11 1 21 := ⟨kkX11_total, fTX11_ok, pTX11_ok _, cTX11_ok, lTX11_ok, sTX11_ok, c_cons ⟨mX11_of, 0, 0, ct_X11_of, mmX11_of, vvX11_of, lkX11_209, ⟨by decide, by decide⟩, ⟨_, _, rfl⟩, by decide, mono_X11_of⟩ (c_nil)⟩
theorem mt_X11_total : mtOK [] RX11 1 21 := mt_nil
abbrev V_X11_total (R : Mem → Option AV → Prop) (pc : Nat) (lc : List (Nat × AV)) (μ : Mem) : Prop := VM mX11_total RX11 1 21 R pc lc [] μ
set_option maxRecDepth 20000 in
theorem vc_X11_total_0 {R : Mem → Option AV → Prop} {μ : Mem} (H : V_X11_total R 4 [(0, kR 201), (1, kI 0), (2, kI 0)] μ) : V_X11_total R 0 [(0, kR 201)] μ := by
  refine vm_step2 mt_X11_total ok_X11_total [(4, [0, 1, 2])] 1000 ?_
  show V_X11_total R 4 [(0, kR 201), (1, kI 0), (2, kI 0)] μ
  exact H
set_option maxRecDepth 20000 in
theorem vc_X11_total_4 {R : Mem → Option AV → Prop} {sum a : Int} {μ : Mem} (H : r32 a ∧ (((8 : Int) ≤ a) → R μ (some (kI sum))) ∧ (¬ ((8 : Int) ≤ a) → P_X11_of 201 (10 + a) μ ∧ V_X11_total R 4 [(0, kR 201), (1, kI (sum + (F_X11_of 201 (10 + a) μ))), (2, kI (a + 1))] μ)) : V_X11_total R 4 [(0, kR 201), (1, kI sum), (2, kI a)] μ := by
  refine vm_step2 mt_X11_total ok_X11_total [(4, [0, 1, 2])] 1000 ?_
  show (r32 a ∧ r32 (8 : Int)) ∧ (((8 : Int) ≤ a) → R μ (some (kI sum))) ∧ (¬ ((8 : Int) ≤ a) → isC 201 11 ∧ P_X11_of 201 (10 + a) μ ∧ V_X11_total R 4 [(0, kR 201), (1, kI (sum + (F_X11_of 201 (10 + a) μ))), (2, kI (a + 1))] μ)
  exact ⟨⟨H.1, by unfold r32; omega⟩, fun hc1 => (H.2.1 hc1), fun hc1 => ⟨c_201, (H.2.2 hc1).1, (H.2.2 hc1).2⟩⟩
theorem body_X11_total {o : Int} {μ : Mem} {R : Mem → Option AV → Prop} (h : P_X11_total o μ) (hR : R μ (some (kI (F_X11_total o μ)))) : V_X11_total R 0 [(0, kR o)] μ := by
  obtain ⟨rfl, hb⟩ := h
  have key := up_ind (P := fun a => V_X11_total R 4 [(0, kR 201), (1, kI (sm (vm μ 4) a)), (2, kI a)] μ) (lo := 0) (hi := 8) ?_ ?_
  · exact vc_X11_total_0 (key 0 (by omega) (by omega))
  · intro a h0 h1 ih
    refine vc_X11_total_4 ⟨rr (by omega), fun c => absurd c (by omega), fun _ => ⟨⟨rfl, hb.1, by omega, by omega⟩, ?_⟩⟩
    rw [of_4 h0 h1, ← sm_s h0]
    exact ih
  · exact vc_X11_total_4 ⟨rr (by omega), fun _ => hR, fun c => absurd (Int.le_refl _) c⟩
theorem ct_X11_total : Ct mX11_total 1 21 0 0 (nrmS S_X11_total) := by
  refine ct_vm (own := RX11) (by decide +kernel) rfl ?_ ?_
  · intro as μ Q hS
    unfold S_X11_total at hS
    split at hS
    · exact Nat.le_of_ble_eq_true rfl
    · exact hS.elim
  · intro as μ R hS
    unfold S_X11_total at hS
    split at hS
    · exact body_X11_total hS.1 hS.2
    · exact hS.elim
def MatOk (M : Int → Int → Int) : Prop := (∀ c, M c c = 0) ∧ ∀ a b : Int, 0 ≤ M a b ∧ M a b ≤ 100000
def P_X11_spreads (o : Int) (μ : Mem) : Prop := o = 201 ∧ (2 ≤ μ 201 13 ∧ μ 201 13 ≤ 8) ∧ ∃ M : Int → Int → Int, Holds2 μ 206 (μ 201 13) M ∧ MatOk M
def Q_X11_spreads (_ : Int) (μ μ' : Mem) : Prop := (∀ M : Int → Int → Int, Holds2 μ 206 (μ 201 13) M → MatOk M → Holds2 μ' 206 (μ 201 13) (fw M (μ 201 13))) ∧ ∀ z : Int, z ≠ 206 → μ' z = μ z
def S_X11_spreads : S0t := fun as μ Q => match as with
  | [(2, x0)] => P_X11_spreads x0 μ ∧ ∀ (μ' : Mem) , Q_X11_spreads x0 μ μ'  → Q μ' none
  | _ => False
theorem mono_X11_spreads : Mono S_X11_spreads := by
  intro as μ Q Q' h hS
  unfold S_X11_spreads at hS ⊢
  split at hS
  · exact ⟨hS.1, fun μ' q => h _ _ (hS.2 _ q)⟩
  · exact hS.elim
def iX11_spreads : Inf := (kX11_spreads, fTX11, pTX11, cTX11, lTX11, sTX11, [])
theorem ok_X11_spreads : infOK iX11_spreads mX11_spreads RX11 0 0 := ⟨kkX11_spreads, fTX11_ok, pTX11_ok _, cTX11_ok, lTX11_ok, sTX11_ok, c_nil⟩
theorem mt_X11_spreads : mtOK [] RX11 0 0 := mt_nil
abbrev V_X11_spreads (R : Mem → Option AV → Prop) (pc : Nat) (lc : List (Nat × AV)) (μ : Mem) : Prop := VM mX11_spreads RX11 0 0 R pc lc [] μ
set_option maxRecDepth 20000 in
theorem vc_X11_spreads_0 {R : Mem → Option AV → Prop} {μ : Mem} (H : V_X11_spreads R 2 [(0, kR 201), (1, kI 0)] μ) : V_X11_spreads R 0 [(0, kR 201)] μ := by
  refine vm_step2 mt_X11_spreads ok_X11_spreads [(2, [0, 1]), (12, [0, 1, 2]), (22, [0, 1, 2, 3])] 1000 ?_
  show V_X11_spreads R 2 [(0, kR 201), (1, kI 0)] μ
  exact H
set_option maxRecDepth 20000 in
theorem vc_X11_spreads_2 {R : Mem → Option AV → Prop} {m : Int} {μ : Mem} (H : r32 m ∧ r32 (μ 201 13) ∧ (((μ 201 13) ≤ m) → R μ none) ∧ (¬ ((μ 201 13) ≤ m) → V_X11_spreads R 12 [(0, kR 201), (1, kI m), (2, kI 0)] μ)) : V_X11_spreads R 2 [(0, kR 201), (1, kI m)] μ := by
  refine vm_step2 mt_X11_spreads ok_X11_spreads [(2, [0, 1]), (12, [0, 1, 2]), (22, [0, 1, 2, 3])] 1000 ?_
  show isC 201 11 ∧ (r32 m ∧ r32 (μ 201 13)) ∧ (((μ 201 13) ≤ m) → R μ none) ∧ (¬ ((μ 201 13) ≤ m) → V_X11_spreads R 12 [(0, kR 201), (1, kI m), (2, kI 0)] μ)
  exact ⟨c_201, ⟨⟨H.1, H.2.1⟩, fun hc1 => (H.2.2.1 hc1), fun hc1 => (H.2.2.2 hc1)⟩⟩
set_option maxRecDepth 20000 in
theorem vc_X11_spreads_12 {R : Mem → Option AV → Prop} {m a : Int} {μ : Mem} (H : r32 a ∧ r32 (μ 201 13) ∧ (((μ 201 13) ≤ a) → V_X11_spreads R 2 [(0, kR 201), (1, kI (m + 1))] μ) ∧ (¬ ((μ 201 13) ≤ a) → V_X11_spreads R 22 [(0, kR 201), (1, kI m), (2, kI a), (3, kI 0)] μ)) : V_X11_spreads R 12 [(0, kR 201), (1, kI m), (2, kI a)] μ := by
  refine vm_step2 mt_X11_spreads ok_X11_spreads [(2, [0, 1]), (12, [0, 1, 2]), (22, [0, 1, 2, 3])] 1000 ?_
  show isC 201 11 ∧ (r32 a ∧ r32 (μ 201 13)) ∧ (((μ 201 13) ≤ a) → V_X11_spreads R 2 [(0, kR 201), (1, kI (m + 1))] μ) ∧ (¬ ((μ 201 13) ≤ a) → V_X11_spreads R 22 [(0, kR 201), (1, kI m), (2, kI a), (3, kI 0)] μ)
  exact ⟨c_201, ⟨⟨H.1, H.2.1⟩, fun hc2 => (H.2.2.1 hc2), fun hc2 => (H.2.2.2 hc2)⟩⟩
set_option maxRecDepth 20000 in
theorem vc_X11_spreads_22 {R : Mem → Option AV → Prop} {m a b : Int} {μ : Mem} (H : r32 b ∧ r32 (μ 201 13) ∧ (((μ 201 13) ≤ b) → V_X11_spreads R 12 [(0, kR 201), (1, kI m), (2, kI (a + 1))] μ) ∧ (¬ ((μ 201 13) ≤ b) → (0 ≤ ((8 * a) + m) ∧ ((8 * a) + m) < 64) ∧ (0 ≤ ((8 * m) + b) ∧ ((8 * m) + b) < 64) ∧ (0 ≤ ((8 * a) + b) ∧ ((8 * a) + b) < 64) ∧ r32 ((μ 206 ((8 * a) + m)) + (μ 206 ((8 * m) + b))) ∧ r32 (μ 206 ((8 * a) + b)) ∧ (((μ 206 ((8 * a) + b)) ≤ ((μ 206 ((8 * a) + m)) + (μ 206 ((8 * m) + b)))) → V_X11_spreads R 22 [(0, kR 201), (1, kI m), (2, kI a), (3, kI (b + 1))] μ) ∧ (¬ ((μ 206 ((8 * a) + b)) ≤ ((μ 206 ((8 * a) + m)) + (μ 206 ((8 * m) + b)))) → (0 ≤ ((8 * a) + b) ∧ ((8 * a) + b) < 64) ∧ V_X11_spreads R 22 [(0, kR 201), (1, kI m), (2, kI a), (3, kI (b + 1))] (updm μ 206 ((8 * a) + b) ((μ 206 ((8 * a) + m)) + (μ 206 ((8 * m) + b))))))) : V_X11_spreads R 22 [(0, kR 201), (1, kI m), (2, kI a), (3, kI b)] μ := by
  refine vm_step2 mt_X11_spreads ok_X11_spreads [(2, [0, 1]), (12, [0, 1, 2]), (22, [0, 1, 2, 3])] 1000 ?_
  show isC 201 11 ∧ (r32 b ∧ r32 (μ 201 13)) ∧ (((μ 201 13) ≤ b) → V_X11_spreads R 12 [(0, kR 201), (1, kI m), (2, kI (a + 1))] μ) ∧ (¬ ((μ 201 13) ≤ b) → isC 201 11 ∧ inA 206 0 ((8 * a) + m) ∧ isC 201 11 ∧ inA 206 0 ((8 * m) + b) ∧ isC 201 11 ∧ inA 206 0 ((8 * a) + b) ∧ (r32 ((μ 206 ((8 * a) + m)) + (μ 206 ((8 * m) + b))) ∧ r32 (μ 206 ((8 * a) + b))) ∧ (((μ 206 ((8 * a) + b)) ≤ ((μ 206 ((8 * a) + m)) + (μ 206 ((8 * m) + b)))) → V_X11_spreads R 22 [(0, kR 201), (1, kI m), (2, kI a), (3, kI (b + 1))] μ) ∧ (¬ ((μ 206 ((8 * a) + b)) ≤ ((μ 206 ((8 * a) + m)) + (μ 206 ((8 * m) + b)))) → isC 201 11 ∧ inA 206 0 ((8 * a) + b) ∧ V_X11_spreads R 22 [(0, kR 201), (1, kI m), (2, kI a), (3, kI (b + 1))] (updm μ 206 ((8 * a) + b) ((μ 206 ((8 * a) + m)) + (μ 206 ((8 * m) + b))))))
  exact ⟨c_201, ⟨⟨H.1, H.2.1⟩, fun hc4 => (H.2.2.1 hc4), fun hc4 => ⟨c_201, ⟨isArr.in a_206 (H.2.2.2 hc4).1.1 (H.2.2.2 hc4).1.2, ⟨c_201, ⟨isArr.in a_206 (H.2.2.2 hc4).2.1.1 (H.2.2.2 hc4).2.1.2, ⟨c_201, ⟨isArr.in a_206 (H.2.2.2 hc4).2.2.1.1 (H.2.2.2 hc4).2.2.1.2, ⟨⟨(H.2.2.2 hc4).2.2.2.1, (H.2.2.2 hc4).2.2.2.2.1⟩, fun hc3 => ((H.2.2.2 hc4).2.2.2.2.2.1 hc3), fun hc3 => ⟨c_201, ⟨isArr.in a_206 ((H.2.2.2 hc4).2.2.2.2.2.2 hc3).1.1 ((H.2.2.2 hc4).2.2.2.2.2.2 hc3).1.2, ((H.2.2.2 hc4).2.2.2.2.2.2 hc3).2⟩⟩⟩⟩⟩⟩⟩⟩⟩⟩⟩
theorem Holds2.at {μ : Mem} {o n : Int} {M M' : Int → Int → Int} (h : Holds2 μ o n M) (h' : Holds2 μ o n M') : ∀ a b : Int, 0 ≤ a → a < n → 0 ≤ b → b < n → M a b = M' a b := fun a b a0 a1 b0 b1 => by rw [← h a b a0 a1 b0 b1, h' a b a0 a1 b0 b1]
theorem fw_congr {M M' : Int → Int → Int} {n : Int} (h : ∀ a b : Int, 0 ≤ a → a < n → 0 ≤ b → b < n → M a b = M' a b) : ∀ m : Int, 0 ≤ m → m ≤ n → ∀ a b : Int, 0 ≤ a → a < n → 0 ≤ b → b < n → fw M m a b = fw M' m a b := by
  refine nat_ind (P := fun m => m ≤ n → ∀ a b : Int, 0 ≤ a → a < n → 0 ≤ b → b < n → fw M m a b = fw M' m a b) (fun _ => h) (fun m m0 ih hm a b a0 a1 b0 b1 => ?_)
  rw [fw_s m0, fw_s m0]
  unfold fwS
  rw [ih (by omega) a b a0 a1 b0 b1, ih (by omega) a m a0 a1 m0 (by omega), ih (by omega) m b m0 (by omega) b0 b1]
theorem body_X11_spreads {o : Int} {μ : Mem} {R : Mem → Option AV → Prop} (h : P_X11_spreads o μ) (hR : ∀ μ' : Mem, Q_X11_spreads o μ μ' → R μ' none) : V_X11_spreads R 0 [(0, kR o)] μ := by
  obtain ⟨rfl, hp, M0, hM0, hI⟩ := h
  have hF := fun (n : Int) (hn : 0 ≤ n) => fw_diag hI.1 (fun a b => (hI.2 a b).1) hn
  refine vc_X11_spreads_0 ?_
  have p3 : ∀ m : Int, 0 ≤ m → m ≤ μ 201 13 → ∀ μ1 : Mem, (∀ z : Int, z ≠ 206 → μ1 z = μ z) → Holds2 μ1 206 (μ 201 13) (fw M0 m) → V_X11_spreads R 2 [(0, kR 201), (1, kI m)] μ1 := by
    refine up_ind (P := fun m => ∀ μ1 : Mem, (∀ z : Int, z ≠ 206 → μ1 z = μ z) → Holds2 μ1 206 (μ 201 13) (fw M0 m) → V_X11_spreads R 2 [(0, kR 201), (1, kI m)] μ1) ?_ ?_
    · intro m m0 m1 ih μ1 hf hh
      have e1 : μ1 201 13 = μ 201 13 := by rw [hf 201 (by omega)]
      have hD := hF m m0
      rw [fw_s m0] at ih
      generalize fw M0 m = M at ih hh hD
      have hM : ∀ a b, 0 ≤ M a b ∧ M a b ≤ 100000 := fun a b => ⟨(hD.2 a b).1, Int.le_trans (hD.2 a b).2 (hI.2 a b).2⟩
      have pa : ∀ a : Int, 0 ≤ a → a ≤ μ 201 13 → ∀ μ1 : Mem, (∀ z : Int, z ≠ 206 → μ1 z = μ z) → Stage μ1 206 (μ 201 13) M m a 0 → V_X11_spreads R 12 [(0, kR 201), (1, kI m), (2, kI a)] μ1 := by
        refine up_ind (P := fun a => ∀ μ1 : Mem, (∀ z : Int, z ≠ 206 → μ1 z = μ z) → Stage μ1 206 (μ 201 13) M m a 0 → V_X11_spreads R 12 [(0, kR 201), (1, kI m), (2, kI a)] μ1) ?_ ?_
        · intro a a0 a1 iha μ2 hf2 hs2
          have e2 : μ2 201 13 = μ 201 13 := by rw [hf2 201 (by omega)]
          have pb : ∀ b : Int, 0 ≤ b → b ≤ μ 201 13 → ∀ μ1 : Mem, (∀ z : Int, z ≠ 206 → μ1 z = μ z) → Stage μ1 206 (μ 201 13) M m a b → V_X11_spreads R 22 [(0, kR 201), (1, kI m), (2, kI a), (3, kI b)] μ1 := by
            refine up_ind (P := fun b => ∀ μ1 : Mem, (∀ z : Int, z ≠ 206 → μ1 z = μ z) → Stage μ1 206 (μ 201 13) M m a b → V_X11_spreads R 22 [(0, kR 201), (1, kI m), (2, kI a), (3, kI b)] μ1) ?_ ?_
            · intro b b0 b1 ihb μ3 hf3 hs3
              have e3 : μ3 201 13 = μ 201 13 := by rw [hf3 201 (by omega)]
              have hr := hs3.row hD.1 (fun a b => (hM a b).1) m0 m1
              have ram := hr.1 a a0 a1
              have rmb := hr.2 b b0 b1
              have rab := (hs3 a b a0 a1 b0 b1).2 (by unfold done; omega)
              have x1 := hM a m
              have x2 := hM m b
              have x3 := hM a b
              refine vc_X11_spreads_22 ?_
              rw [e3, ram, rmb, rab]
              refine ⟨rr (by omega), rr (by omega), fun c => absurd c (by omega), fun _ => ⟨by omega, by omega, by omega, rr (by omega), rr (by omega), fun c => ?_, fun c => ⟨by omega, ?_⟩⟩⟩
              · exact ihb μ3 hf3 (hs3.keep ⟨a0, a1⟩ ⟨b0, b1⟩ c)
              · refine ihb _ (fun z hz => ?_) (hs3.put (by omega) ⟨a0, a1⟩ ⟨b0, b1⟩ (by omega))
                rw [ru_ne hz]; exact hf3 z hz
            · intro μ3 hf3 hs3
              have e3 : μ3 201 13 = μ 201 13 := by rw [hf3 201 (by omega)]
              refine vc_X11_spreads_22 ?_
              rw [e3]
              exact ⟨rr (by omega), rr (by omega), fun _ => iha μ3 hf3 hs3.next, fun c => absurd (Int.le_refl _) c⟩
          refine vc_X11_spreads_12 ?_
          rw [e2]
          exact ⟨rr (by omega), rr (by omega), fun c => absurd c (by omega), fun _ => pb 0 (by omega) (by omega) μ2 hf2 hs2⟩
        · intro μ2 hf2 hs2
          have e2 : μ2 201 13 = μ 201 13 := by rw [hf2 201 (by omega)]
          refine vc_X11_spreads_12 ?_
          rw [e2]
          exact ⟨rr (by omega), rr (by omega), fun _ => ih μ2 hf2 hs2.fin, fun c => absurd (Int.le_refl _) c⟩
      refine vc_X11_spreads_2 ?_
      rw [e1]
      exact ⟨rr (by omega), rr (by omega), fun c => absurd c (by omega), fun _ => pa 0 (by omega) (by omega) μ1 hf (Stage.start hh)⟩
    · intro μ1 hf hh
      have e1 : μ1 201 13 = μ 201 13 := by rw [hf 201 (by omega)]
      refine vc_X11_spreads_2 ?_
      rw [e1]
      refine ⟨rr (by omega), rr (by omega), fun _ => hR μ1 ⟨fun M hM _ => ?_, hf⟩, fun c => absurd (Int.le_refl _) c⟩
      intro a b a0 a1 b0 b1
      rw [hh a b a0 a1 b0 b1]
      exact fw_congr (hM0.at hM) (μ 201 13) (by omega) (Int.le_refl _) a b a0 a1 b0 b1
  exact p3 0 (by omega) (by omega) μ (fun _ _ => rfl) hM0
theorem ct_X11_spreads : Ct mX11_spreads 0 0 0 0 (nrmS S_X11_spreads) := by
  refine ct_vm (own := RX11) (by decide +kernel) rfl ?_ ?_
  · intro as μ Q hS
    unfold S_X11_spreads at hS
    split at hS
    · exact Nat.le_of_ble_eq_true rfl
    · exact hS.elim
  · intro as μ R hS
    unfold S_X11_spreads at hS
    split at hS
    · exact body_X11_spreads hS.1 hS.2
    · exact hS.elim
def P_X11_distances (o : Int) (μ : Mem) : Prop := o = 201 ∧ MB μ
def Q_X11_distances (_ : Int) (μ μ' : Mem) : Prop := Holds2 μ' 206 (vm μ 0 0) (wayV (vm μ)) ∧ ∀ z : Int, z ≠ 206 → μ' z = μ z
def S_X11_distances : S0t := fun as μ Q => match as with
  | [(2, x0)] => P_X11_distances x0 μ ∧ ∀ (μ' : Mem) , Q_X11_distances x0 μ μ'  → Q μ' none
  | _ => False
theorem mono_X11_distances : Mono S_X11_distances := by
  intro as μ Q Q' h hS
  unfold S_X11_distances at hS ⊢
  split at hS
  · exact ⟨hS.1, fun μ' q => h _ _ (hS.2 _ q)⟩
  · exact hS.elim
def iX11_distances : Inf := (kX11_distances, fTX11, pTX11, cTX11, lTX11, sTX11, [(213, 0, 0, 11, S_X11_spreads), (209, 0, 1, 11, S_X11_of)])
theorem ok_X11_distances : infOK iX11_distances mX11_distances RX11 1 24 := ⟨kkX11_distances, fTX11_ok, pTX11_ok _, cTX11_ok, lTX11_ok, sTX11_ok, c_cons ⟨mX11_spreads, 0, 0, ct_X11_spreads, mmX11_spreads, vvX11_spreads, lkX11_213, ⟨by decide, by decide⟩, ⟨_, _, rfl⟩, by decide, mono_X11_spreads⟩ (c_cons ⟨mX11_of, 0, 0, ct_X11_of, mmX11_of, vvX11_of, lkX11_209, ⟨by decide, by decide⟩, ⟨_, _, rfl⟩, by decide, mono_X11_of⟩ (c_nil))⟩
theorem mt_X11_distances : mtOK [] RX11 1 24 := mt_nil
abbrev V_X11_distances (R : Mem → Option AV → Prop) (pc : Nat) (lc : List (Nat × AV)) (μ : Mem) : Prop := VM mX11_distances RX11 1 24 R pc lc [] μ
set_option maxRecDepth 20000 in
theorem vc_X11_distances_0 {R : Mem → Option AV → Prop} {μ : Mem} (H : V_X11_distances R 2 [(0, kR 201), (1, kI 0)] μ) : V_X11_distances R 0 [(0, kR 201)] μ := by
  refine vm_step2 mt_X11_distances ok_X11_distances [(2, [0, 1]), (53, [0, 1])] 1000 ?_
  show V_X11_distances R 2 [(0, kR 201), (1, kI 0)] μ
  exact H
set_option maxRecDepth 20000 in
theorem vc_X11_distances_2 {R : Mem → Option AV → Prop} {i : Int} {μ : Mem} (H : r32 i ∧ (((64 : Int) ≤ i) → P_X11_spreads 201 μ ∧ (∀ (μ1 : Mem), Q_X11_spreads 201 μ μ1 → R μ1 none)) ∧ (¬ ((64 : Int) ≤ i) → r32 i ∧ r32 i ∧ r32 (Int.tdiv i 8) ∧ r32 (Int.tmod i 8) ∧ ((¬ (Int.tdiv i 8) = (Int.tmod i 8)) → P_X11_of 201 (40 + i) μ ∧ r32 (F_X11_of 201 (40 + i) μ) ∧ (((F_X11_of 201 (40 + i) μ) ≤ 0) → (0 ≤ i ∧ i < 64) ∧ V_X11_distances R 53 [(0, kR 201), (1, kI i)] (updm μ 206 i 100000)) ∧ (¬ ((F_X11_of 201 (40 + i) μ) ≤ 0) → P_X11_of 201 (40 + i) μ ∧ (0 ≤ i ∧ i < 64) ∧ V_X11_distances R 53 [(0, kR 201), (1, kI i)] (updm μ 206 i (F_X11_of 201 (40 + i) μ)))) ∧ (¬ (¬ (Int.tdiv i 8) = (Int.tmod i 8)) → (0 ≤ i ∧ i < 64) ∧ V_X11_distances R 53 [(0, kR 201), (1, kI i)] (updm μ 206 i 0)))) : V_X11_distances R 2 [(0, kR 201), (1, kI i)] μ := by
  refine vm_step2 mt_X11_distances ok_X11_distances [(2, [0, 1]), (53, [0, 1])] 1000 ?_
  show (r32 i ∧ r32 (64 : Int)) ∧ (((64 : Int) ≤ i) → isC 201 11 ∧ P_X11_spreads 201 μ ∧ (∀ (μ1 : Mem), Q_X11_spreads 201 μ μ1 → R μ1 none)) ∧ (¬ ((64 : Int) ≤ i) → isC 201 11 ∧ (r32 i ∧ r32 (8 : Int) ∧ (8 : Int) ≠ 0) ∧ (r32 i ∧ r32 (8 : Int) ∧ (8 : Int) ≠ 0) ∧ (r32 (Int.tdiv i 8) ∧ r32 (Int.tmod i 8)) ∧ ((¬ (Int.tdiv i 8) = (Int.tmod i 8)) → isC 201 11 ∧ P_X11_of 201 (40 + i) μ ∧ r32 (F_X11_of 201 (40 + i) μ) ∧ (((F_X11_of 201 (40 + i) μ) ≤ 0) → inA 206 0 i ∧ V_X11_distances R 53 [(0, kR 201), (1, kI i)] (updm μ 206 i 100000)) ∧ (¬ ((F_X11_of 201 (40 + i) μ) ≤ 0) → isC 201 11 ∧ P_X11_of 201 (40 + i) μ ∧ inA 206 0 i ∧ V_X11_distances R 53 [(0, kR 201), (1, kI i)] (updm μ 206 i (F_X11_of 201 (40 + i) μ)))) ∧ (¬ (¬ (Int.tdiv i 8) = (Int.tmod i 8)) → inA 206 0 i ∧ V_X11_distances R 53 [(0, kR 201), (1, kI i)] (updm μ 206 i 0)))
  exact ⟨⟨H.1, by unfold r32; omega⟩, fun hc6 => ⟨c_201, (H.2.1 hc6).1, fun μ1 hq3 => ((H.2.1 hc6).2 μ1 hq3)⟩, fun hc6 => ⟨c_201, ⟨⟨(H.2.2 hc6).1, by unfold r32; omega, by omega⟩, ⟨⟨(H.2.2 hc6).2.1, by unfold r32; omega, by omega⟩, ⟨⟨(H.2.2 hc6).2.2.1, (H.2.2 hc6).2.2.2.1⟩, fun hc5 => ⟨c_201, ((H.2.2 hc6).2.2.2.2.1 hc5).1, ⟨((H.2.2 hc6).2.2.2.2.1 hc5).2.1, fun hc4 => ⟨isArr.in a_206 (((H.2.2 hc6).2.2.2.2.1 hc5).2.2.1 hc4).1.1 (((H.2.2 hc6).2.2.2.2.1 hc5).2.2.1 hc4).1.2, (((H.2.2 hc6).2.2.2.2.1 hc5).2.2.1 hc4).2⟩, fun hc4 => ⟨c_201, (((H.2.2 hc6).2.2.2.2.1 hc5).2.2.2 hc4).1, ⟨isArr.in a_206 (((H.2.2 hc6).2.2.2.2.1 hc5).2.2.2 hc4).2.1.1 (((H.2.2 hc6).2.2.2.2.1 hc5).2.2.2 hc4).2.1.2, (((H.2.2 hc6).2.2.2.2.1 hc5).2.2.2 hc4).2.2⟩⟩⟩⟩, fun hc5 => ⟨isArr.in a_206 ((H.2.2 hc6).2.2.2.2.2 hc5).1.1 ((H.2.2 hc6).2.2.2.2.2 hc5).1.2, ((H.2.2 hc6).2.2.2.2.2 hc5).2⟩⟩⟩⟩⟩⟩
set_option maxRecDepth 20000 in
theorem vc_X11_distances_53 {R : Mem → Option AV → Prop} {i : Int} {μ : Mem} (H : V_X11_distances R 2 [(0, kR 201), (1, kI (i + 1))] μ) : V_X11_distances R 53 [(0, kR 201), (1, kI i)] μ := by
  refine vm_step2 mt_X11_distances ok_X11_distances [(2, [0, 1]), (53, [0, 1])] 1000 ?_
  show V_X11_distances R 2 [(0, kR 201), (1, kI (i + 1))] μ
  exact H
theorem body_X11_distances {o : Int} {μ : Mem} {R : Mem → Option AV → Prop} (h : P_X11_distances o μ) (hR : ∀ μ' : Mem, Q_X11_distances o μ μ' → R μ' none) : V_X11_distances R 0 [(0, kR o)] μ := by
  obtain ⟨rfl, hb⟩ := h
  have ok := hb.v
  have hp := hb.p
  have hI := fwI_vm ok (inf := 100000) (by omega)
  refine vc_X11_distances_0 ?_
  refine up_ind (P := fun i => ∀ μ1 : Mem, (∀ z : Int, z ≠ 206 → μ1 z = μ z) → (∀ j : Int, 0 ≤ j → j < i → μ1 206 j = fwI 100000 (vm μ 7) (j / 8) (j % 8)) → V_X11_distances R 2 [(0, kR 201), (1, kI i)] μ1) (lo := 0) (hi := 64) ?_ ?_ 0 (by omega) (by omega) μ (fun _ _ => rfl) (fun j a b => absurd a (by omega))
  · intro i i0 i1 ih μ1 hf hh
    have mb := MB_frame hb (hf 202 (by omega)) (by rw [hf 201 (by omega)]) (by rw [hf 201 (by omega)])
    have e7 : F_X11_of 201 (40 + i) μ1 = vm μ 7 i := by rw [of_7 i0 i1, mb.2]
    have hb7 := vm7_nn ok i
    have d1 : Int.tdiv i 8 = i / 8 := Int.tdiv_eq_ediv_of_nonneg i0
    have d2 : Int.tmod i 8 = i % 8 := Int.tmod_eq_emod_of_nonneg i0
    have dm : 8 * (i / 8) + i % 8 = i := by omega
    have nx : ∀ x : Int, x = fwI 100000 (vm μ 7) (i / 8) (i % 8) → V_X11_distances R 53 [(0, kR 201), (1, kI i)] (updm μ1 206 i x) := by
      intro x hx
      refine vc_X11_distances_53 (ih _ (fun z hz => ?_) (fun j j0 j1 => ?_))
      · rw [ru_ne hz]; exact hf z hz
      · rw [ru_eq]
        by_cases hj : j = i
        · rw [hj, r1_eq, hx]
        · rw [r1_ne hj]; exact hh j j0 (by omega)
    refine vc_X11_distances_2 ?_
    rw [e7, d1, d2]
    refine ⟨rr (by omega), fun c => absurd c (by omega), fun _ => ⟨rr (by omega), rr (by omega), rr (by omega), rr (by omega), fun c => ⟨⟨rfl, mb.1.1, by omega, by omega⟩, rr (by omega), fun c2 => ⟨⟨i0, i1⟩, nx _ ?_⟩, fun c2 => ⟨⟨rfl, mb.1.1, by omega, by omega⟩, ⟨i0, i1⟩, nx _ ?_⟩⟩, fun c => ⟨⟨i0, i1⟩, nx _ ?_⟩⟩⟩
    · unfold fwI
      rw [if_neg c, dm, if_pos (by omega)]
    · unfold fwI
      rw [if_neg c, dm, if_neg (by omega)]
    · unfold fwI
      rw [if_pos (Classical.byContradiction c)]
  · intro μ1 hf hh
    have e13 : μ1 201 13 = μ 201 13 := by rw [hf 201 (by omega)]
    have hh2 : Holds2 μ1 206 (μ1 201 13) (fwI 100000 (vm μ 7)) := fun a b a0 a1 b0 b1 => by
      rw [e13] at a1 b1
      rw [hh (8 * a + b) (by omega) (by omega), show (8 * a + b) / 8 = a by omega, show (8 * a + b) % 8 = b by omega]
    refine vc_X11_distances_2 ⟨rr (by omega), fun _ => ⟨⟨rfl, by omega, _, hh2, hI⟩, fun m q => hR m ⟨?_, fun z hz => by rw [q.2 z hz, hf z hz]⟩⟩, fun c => absurd (Int.le_refl _) c⟩
    have q1 := q.1 _ hh2 hI
    rw [e13, hb.2.1] at q1
    intro a b a0 a1 b0 b1
    rw [q1 a b a0 a1 b0 b1]
    exact way_inf ok hb.2.2.2.1 (by omega) a0 a1 b0 b1
theorem ct_X11_distances : Ct mX11_distances 1 24 0 0 (nrmS S_X11_distances) := by
  refine ct_vm (own := RX11) (by decide +kernel) rfl ?_ ?_
  · intro as μ Q hS
    unfold S_X11_distances at hS
    split at hS
    · exact Nat.le_of_ble_eq_true rfl
    · exact hS.elim
  · intro as μ R hS
    unfold S_X11_distances at hS
    split at hS
    · exact body_X11_distances hS.1 hS.2
    · exact hS.elim
def P_X11_lists (o : Int) (μ : Mem) : Prop := o = 201 ∧ MB μ
def Q_X11_lists (_ : Int) (μ μ' : Mem) : Prop := CR μ' (awayV (vm μ)) ∧ FldM μ μ' [14] ∧ ∀ z : Int, z ≠ 201 → z ≠ 205 → μ' z = μ z
def S_X11_lists : S0t := fun as μ Q => match as with
  | [(2, x0)] => P_X11_lists x0 μ ∧ ∀ (μ' : Mem) , Q_X11_lists x0 μ μ'  → Q μ' none
  | _ => False
theorem mono_X11_lists : Mono S_X11_lists := by
  intro as μ Q Q' h hS
  unfold S_X11_lists at hS ⊢
  split at hS
  · exact ⟨hS.1, fun μ' q => h _ _ (hS.2 _ q)⟩
  · exact hS.elim
def iX11_lists : Inf := (kX11_lists, fTX11, pTX11, cTX11, lTX11, sTX11, [(209, 0, 1, 11, S_X11_of)])
theorem ok_X11_lists : infOK iX11_lists mX11_lists RX11 1 21 := ⟨kkX11_lists, fTX11_ok, pTX11_ok _, cTX11_ok, lTX11_ok, sTX11_ok, c_cons ⟨mX11_of, 0, 0, ct_X11_of, mmX11_of, vvX11_of, lkX11_209, ⟨by decide, by decide⟩, ⟨_, _, rfl⟩, by decide, mono_X11_of⟩ (c_nil)⟩
theorem mt_X11_lists : mtOK [] RX11 1 21 := mt_nil
abbrev V_X11_lists (R : Mem → Option AV → Prop) (pc : Nat) (lc : List (Nat × AV)) (μ : Mem) : Prop := VM mX11_lists RX11 1 21 R pc lc [] μ
set_option maxRecDepth 20000 in
theorem vc_X11_lists_0 {R : Mem → Option AV → Prop} {μ : Mem} (H : V_X11_lists R 5 [(0, kR 201)] (updm μ 201 14 0)) : V_X11_lists R 0 [(0, kR 201)] μ := by
  refine vm_step2 mt_X11_lists ok_X11_lists [(5, [0]), (7, [0, 1]), (39, [0, 1]), (49, [0, 1])] 1000 ?_
  show isC 201 11 ∧ 0 = 0 ∧ True ∧ V_X11_lists R 5 [(0, kR 201)] (updm μ 201 14 0)
  exact ⟨c_201, rfl, trivial, H⟩
set_option maxRecDepth 20000 in
theorem vc_X11_lists_5 {R : Mem → Option AV → Prop} {μ : Mem} (H : V_X11_lists R 7 [(0, kR 201), (1, kI 1)] μ) : V_X11_lists R 5 [(0, kR 201)] μ := by
  refine vm_step2 mt_X11_lists ok_X11_lists [(5, [0]), (7, [0, 1]), (39, [0, 1]), (49, [0, 1])] 1000 ?_
  show V_X11_lists R 7 [(0, kR 201), (1, kI 1)] μ
  exact H
set_option maxRecDepth 20000 in
theorem vc_X11_lists_7 {R : Mem → Option AV → Prop} {a : Int} {μ : Mem} (H : r32 a ∧ r32 (μ 201 13) ∧ (((μ 201 13) ≤ a) → R μ none) ∧ (¬ ((μ 201 13) ≤ a) → P_X11_of 201 (10 + a) μ ∧ r32 (F_X11_of 201 (10 + a) μ) ∧ ((¬ (F_X11_of 201 (10 + a) μ) = 0) → (0 ≤ (μ 201 14) ∧ (μ 201 14) < 7) ∧ V_X11_lists R 39 [(0, kR 201), (1, kI a)] (updm μ 205 (μ 201 14) a)) ∧ (¬ (¬ (F_X11_of 201 (10 + a) μ) = 0) → V_X11_lists R 49 [(0, kR 201), (1, kI a)] μ))) : V_X11_lists R 7 [(0, kR 201), (1, kI a)] μ := by
  refine vm_step2 mt_X11_lists ok_X11_lists [(5, [0]), (7, [0, 1]), (39, [0, 1]), (49, [0, 1])] 1000 ?_
  show isC 201 11 ∧ (r32 a ∧ r32 (μ 201 13)) ∧ (((μ 201 13) ≤ a) → R μ none) ∧ (¬ ((μ 201 13) ≤ a) → isC 201 11 ∧ P_X11_of 201 (10 + a) μ ∧ r32 (F_X11_of 201 (10 + a) μ) ∧ ((¬ (F_X11_of 201 (10 + a) μ) = 0) → isC 201 11 ∧ isC 201 11 ∧ inA 205 0 (μ 201 14) ∧ V_X11_lists R 39 [(0, kR 201), (1, kI a)] (updm μ 205 (μ 201 14) a)) ∧ (¬ (¬ (F_X11_of 201 (10 + a) μ) = 0) → V_X11_lists R 49 [(0, kR 201), (1, kI a)] μ))
  exact ⟨c_201, ⟨⟨H.1, H.2.1⟩, fun hc2 => (H.2.2.1 hc2), fun hc2 => ⟨c_201, (H.2.2.2 hc2).1, ⟨(H.2.2.2 hc2).2.1, fun hc1 => ⟨c_201, ⟨c_201, ⟨isArr.in a_205 ((H.2.2.2 hc2).2.2.1 hc1).1.1 ((H.2.2.2 hc2).2.2.1 hc1).1.2, ((H.2.2.2 hc2).2.2.1 hc1).2⟩⟩⟩, fun hc1 => ((H.2.2.2 hc2).2.2.2 hc1)⟩⟩⟩⟩
set_option maxRecDepth 20000 in
theorem vc_X11_lists_39 {R : Mem → Option AV → Prop} {a : Int} {μ : Mem} (H : V_X11_lists R 49 [(0, kR 201), (1, kI a)] (updm μ 201 14 ((μ 201 14) + 1))) : V_X11_lists R 39 [(0, kR 201), (1, kI a)] μ := by
  refine vm_step2 mt_X11_lists ok_X11_lists [(5, [0]), (7, [0, 1]), (39, [0, 1]), (49, [0, 1])] 1000 ?_
  show isC 201 11 ∧ isC 201 11 ∧ 0 = 0 ∧ True ∧ V_X11_lists R 49 [(0, kR 201), (1, kI a)] (updm μ 201 14 ((μ 201 14) + 1))
  exact ⟨c_201, ⟨c_201, rfl, trivial, H⟩⟩
set_option maxRecDepth 20000 in
theorem vc_X11_lists_49 {R : Mem → Option AV → Prop} {a : Int} {μ : Mem} (H : V_X11_lists R 7 [(0, kR 201), (1, kI (a + 1))] μ) : V_X11_lists R 49 [(0, kR 201), (1, kI a)] μ := by
  refine vm_step2 mt_X11_lists ok_X11_lists [(5, [0]), (7, [0, 1]), (39, [0, 1]), (49, [0, 1])] 1000 ?_
  show V_X11_lists R 7 [(0, kR 201), (1, kI (a + 1))] μ
  exact H
theorem body_X11_lists {o : Int} {μ : Mem} {R : Mem → Option AV → Prop} (h : P_X11_lists o μ) (hR : ∀ μ' : Mem, Q_X11_lists o μ μ' → R μ' none) : V_X11_lists R 0 [(0, kR o)] μ := by
  obtain ⟨rfl, hb⟩ := h
  have ok := hb.v
  have hp := hb.p
  have hpe := hb.2.1
  refine vc_X11_lists_0 (vc_X11_lists_5 ?_)
  refine up_ind (P := fun a => ∀ μ1 : Mem, (∀ z : Int, z ≠ 201 → z ≠ 205 → μ1 z = μ z) → FldM μ μ1 [14] → μ1 201 14 = cntB (awayV (vm μ)) a → (∀ k : Int, 0 ≤ k → k < cntB (awayV (vm μ)) a → μ1 205 k = mthV (awayV (vm μ)) k) → V_X11_lists R 7 [(0, kR 201), (1, kI a)] μ1) (lo := 1) (hi := μ 201 13) ?_ ?_ 1 (by omega) (by omega) _ (fun z h1 h2 => ru_ne h1) (fun f hf => ?_) ?_ (fun k k0 k1 => ?_)
  · intro a a0 a1 ih μ1 hf hfl hc hk
    have e13 : μ1 201 13 = μ 201 13 := hfl 13 (by decide)
    have mb := MB_frame hb (hf 202 (by omega) (by omega)) (hfl 12 (by decide)) e13
    have e4 : F_X11_of 201 (10 + a) μ1 = vm μ 4 a := by rw [of_4 (by omega) (by omega), mb.2]
    have h4 := (ok.2.2.2.1 a (by omega) (by omega)).1
    have hah := away_has ok (a := a) (by omega)
    have cb := cntB_bd (s := awayV (vm μ)) (c := a) (by omega)
    have cs := cntB_s (s := awayV (vm μ)) (c := a) (by omega)
    have c0 : cntB (awayV (vm μ)) a ≤ a - 1 := by
      have h0 := away_has ok (a := 0) (by omega)
      have h1 := cntB_s (s := awayV (vm μ)) (c := 0) (by omega)
      have h2 : hasB (awayV (vm μ)) 0 = false := by rw [h0]; rfl
      rw [h2] at h1
      have key : ∀ n : Int, 1 ≤ n → cntB (awayV (vm μ)) n ≤ n - 1 := by
        intro n n1
        refine up_ind (P := fun i => cntB (awayV (vm μ)) i ≤ i - 1 → cntB (awayV (vm μ)) n ≤ n - 1) (lo := 1) (hi := n) (fun i i0 i1 ih q => ih ?_) (fun q => q) 1 (by omega) n1 ?_
        · rw [cntB_s (by omega)]
          split <;> omega
        · show cntB (awayV (vm μ)) (0 + 1) ≤ 0
          rw [h1]; exact Int.le_refl _
      exact key a a0
    refine vc_X11_lists_7 ?_
    rw [e13, e4]
    refine ⟨rr (by omega), rr (by omega), fun c => absurd c (by omega), fun _ => ⟨⟨rfl, mb.1.1, by omega, by omega⟩, rr (by omega), fun c => ?_, fun c => vc_X11_lists_49 ?_⟩⟩
    · have hin : hasB (awayV (vm μ)) a = true := by
        rw [hah, decide_eq_true (show 0 < a by omega), decide_eq_true (show a < vm μ 0 0 by omega), decide_eq_true (show 0 < vm μ 4 a by omega)]; rfl
      rw [hin, if_pos rfl] at cs
      refine ⟨by omega, ?_⟩
      obtain ⟨m1, e1⟩ : ∃ m, m = updm μ1 205 (μ1 201 14) a := ⟨_, rfl⟩
      rw [← e1]
      refine vc_X11_lists_39 (vc_X11_lists_49 ?_)
      obtain ⟨m, e⟩ : ∃ m, m = updm m1 201 14 (m1 201 14 + 1) := ⟨_, rfl⟩
      rw [← e]
      have g14 : m1 201 14 = μ1 201 14 := by rw [e1, ru_ne (by omega)]
      refine ih m (fun z h1 h2 => by rw [e, ru_ne h1, e1, ru_ne h2]; exact hf z h1 h2) (fun f hff => ?_) (by rw [e, ru_eq, r1_eq, g14, hc, cs]) (fun k k0 k1 => ?_)
      · have q : f ≠ 14 := fun q => hff (by simp [q])
        rw [e, ru_eq, r1_ne q, e1, ru_ne (by omega)]
        exact hfl f hff
      · rw [e, ru_ne (by omega), e1, ru_eq, hc]
        by_cases q : k = cntB (awayV (vm μ)) a
        · rw [q, r1_eq, mth_at (by omega) (by omega) hin]
        · rw [r1_ne q]; exact hk k k0 (by omega)
    · have hin : hasB (awayV (vm μ)) a = false := by
        rw [hah, decide_eq_false (show ¬ 0 < vm μ 4 a by omega), Bool.and_false]
      rw [hin, if_neg (by decide)] at cs
      exact ih μ1 hf hfl (by rw [hc, cs]; omega) (fun k k0 k1 => hk k k0 (by omega))
  · intro μ1 hf hfl hc hk
    have e13 : μ1 201 13 = μ 201 13 := hfl 13 (by decide)
    have ec : popc (awayV (vm μ)) = cntB (awayV (vm μ)) (μ 201 13) := cnt_tail (by omega) (by omega) (fun a a0 a1 => by
      rw [away_has ok (by omega), decide_eq_false (show ¬ a < vm μ 0 0 by omega), Bool.and_false, Bool.false_and])
    refine vc_X11_lists_7 ?_
    rw [e13]
    refine ⟨rr (by omega), rr (by omega), fun _ => hR μ1 ⟨⟨by rw [hc, ec], fun k k0 k1 => hk k k0 (by omega)⟩, hfl, hf⟩, fun c => absurd (Int.le_refl _) c⟩
  · have q : f ≠ 14 := fun q => hf (by simp [q])
    rw [ru_eq, r1_ne q]
  · rw [ru_eq, r1_eq]
    have h0 := away_has ok (a := 0) (by omega)
    have h1 := cntB_s (s := awayV (vm μ)) (c := 0) (by omega)
    have h2 : hasB (awayV (vm μ)) 0 = false := by rw [h0]; rfl
    rw [h2] at h1
    exact h1.symm
  · have h0 := away_has ok (a := 0) (by omega)
    have h1 := cntB_s (s := awayV (vm μ)) (c := 0) (by omega)
    have h2 : hasB (awayV (vm μ)) 0 = false := by rw [h0]; rfl
    rw [h2] at h1
    have h3 : cntB (awayV (vm μ)) 1 = 0 := h1
    omega
theorem ct_X11_lists : Ct mX11_lists 1 21 0 0 (nrmS S_X11_lists) := by
  refine ct_vm (own := RX11) (by decide +kernel) rfl ?_ ?_
  · intro as μ Q hS
    unfold S_X11_lists at hS
    split at hS
    · exact Nat.le_of_ble_eq_true rfl
    · exact hS.elim
  · intro as μ R hS
    unfold S_X11_lists at hS
    split at hS
    · exact body_X11_lists hS.1 hS.2
    · exact hS.elim
def P_X11_looks (o n : Int) (μ : Mem) : Prop := o = 201 ∧ SOk (stM μ) ∧ r32 n
def Q_X11_looks (_ n : Int) (μ μ' : Mem) (r : Int) : Prop := (∀ z : Int, z ≠ 201 → z ≠ 205 → z ≠ 206 → μ' z = μ z) ∧ (¬ (0 ≤ n ∧ n < μ 202 0) → r = 0) ∧ (0 ≤ n ∧ n < μ 202 0 → r = 1 ∧ LK μ' ∧ vm μ' = (stM μ).1.2.2 n)
def S_X11_looks : S0t := fun as μ Q => match as with
  | [(2, x0), (0, x1)] => P_X11_looks x0 x1 μ ∧ ∀ (μ' : Mem) (r : Int), Q_X11_looks x0 x1 μ μ' r → Q μ' (some (kI r))
  | _ => False
theorem mono_X11_looks : Mono S_X11_looks := by
  intro as μ Q Q' h hS
  unfold S_X11_looks at hS ⊢
  split at hS
  · exact ⟨hS.1, fun μ' r q => h _ _ (hS.2 _ _ q)⟩
  · exact hS.elim
def iX11_looks : Inf := (kX11_looks, fTX11, pTX11, cTX11, lTX11, sTX11, [(219, 0, 1, 11, S_X11_isTown), (222, 0, 0, 11, S_X11_distances), (225, 0, 0, 11, S_X11_lists)])
theorem ok_X11_looks : infOK iX11_looks mX11_looks RX11 2 45 := ⟨kkX11_looks, fTX11_ok, pTX11_ok _, cTX11_ok, lTX11_ok, sTX11_ok, c_cons ⟨mX11_isTown, 1, 22, ct_X11_isTown, mmX11_isTown, vvX11_isTown, lkX11_219, ⟨by decide, by decide⟩, ⟨_, _, rfl⟩, by decide, mono_X11_isTown⟩ (c_cons ⟨mX11_distances, 1, 24, ct_X11_distances, mmX11_distances, vvX11_distances, lkX11_222, ⟨by decide, by decide⟩, ⟨_, _, rfl⟩, by decide, mono_X11_distances⟩ (c_cons ⟨mX11_lists, 1, 21, ct_X11_lists, mmX11_lists, vvX11_lists, lkX11_225, ⟨by decide, by decide⟩, ⟨_, _, rfl⟩, by decide, mono_X11_lists⟩ (c_nil)))⟩
theorem mt_X11_looks : mtOK [] RX11 2 45 := mt_nil
abbrev V_X11_looks (R : Mem → Option AV → Prop) (pc : Nat) (lc : List (Nat × AV)) (μ : Mem) : Prop := VM mX11_looks RX11 2 45 R pc lc [] μ
set_option maxRecDepth 20000 in
theorem vc_X11_looks_0 {R : Mem → Option AV → Prop} {n : Int} {μ : Mem} (H : P_X11_isTown 201 n μ ∧ (∀ (μ1 : Mem) (rv2 : Int), Q_X11_isTown 201 n μ μ1 rv2 → r32 rv2 ∧ ((¬ rv2 = 0) → P_X11_distances 201 μ1 ∧ (∀ (μ4 : Mem), Q_X11_distances 201 μ1 μ4 → V_X11_looks R 14 [(0, kR 201)] μ4)) ∧ (¬ (¬ rv2 = 0) → R μ1 (some (kI 0))))) : V_X11_looks R 0 [(0, kR 201), (1, kI n)] μ := by
  refine vm_step2 mt_X11_looks ok_X11_looks [(14, [0]), (18, [])] 1000 ?_
  show isC 201 11 ∧ P_X11_isTown 201 n μ ∧ (∀ (μ1 : Mem) (rv2 : Int), Q_X11_isTown 201 n μ μ1 rv2 → r32 rv2 ∧ ((¬ rv2 = 0) → isC 201 11 ∧ P_X11_distances 201 μ1 ∧ (∀ (μ4 : Mem), Q_X11_distances 201 μ1 μ4 → V_X11_looks R 14 [(0, kR 201)] μ4)) ∧ (¬ (¬ rv2 = 0) → (0 ≤ (0 : Int) ∧ (0 : Int) ≤ 1) ∧ R μ1 (some (kI 0))))
  exact ⟨c_201, H.1, fun μ1 rv2 hq3 => ⟨(H.2 μ1 rv2 hq3).1, fun hc7 => ⟨c_201, ((H.2 μ1 rv2 hq3).2.1 hc7).1, fun μ4 hq6 => (((H.2 μ1 rv2 hq3).2.1 hc7).2 μ4 hq6)⟩, fun hc7 => ⟨⟨by omega, by omega⟩, ((H.2 μ1 rv2 hq3).2.2 hc7)⟩⟩⟩
set_option maxRecDepth 20000 in
theorem vc_X11_looks_14 {R : Mem → Option AV → Prop} {μ : Mem} (H : P_X11_lists 201 μ ∧ (∀ (μ8 : Mem), Q_X11_lists 201 μ μ8 → V_X11_looks R 18 [] μ8)) : V_X11_looks R 14 [(0, kR 201)] μ := by
  refine vm_step2 mt_X11_looks ok_X11_looks [(14, [0]), (18, [])] 1000 ?_
  show isC 201 11 ∧ P_X11_lists 201 μ ∧ (∀ (μ8 : Mem), Q_X11_lists 201 μ μ8 → V_X11_looks R 18 [] μ8)
  exact ⟨c_201, H.1, fun μ8 hq10 => (H.2 μ8 hq10)⟩
set_option maxRecDepth 20000 in
theorem vc_X11_looks_18 {R : Mem → Option AV → Prop} {μ : Mem} (H : R μ (some (kI 1))) : V_X11_looks R 18 [] μ := by
  refine vm_step2 mt_X11_looks ok_X11_looks [(14, [0]), (18, [])] 1000 ?_
  show (0 ≤ (1 : Int) ∧ (1 : Int) ≤ 1) ∧ R μ (some (kI 1))
  exact ⟨⟨by omega, by omega⟩, H⟩
theorem body_X11_looks {o n : Int} {μ : Mem} {R : Mem → Option AV → Prop} (h : P_X11_looks o n μ) (hR : ∀ (μ' : Mem) (r : Int), Q_X11_looks o n μ μ' r → R μ' (some (kI r))) : V_X11_looks R 0 [(0, kR o), (1, kI n)] μ := by
  obtain ⟨rfl, hs, rn⟩ := h
  refine vc_X11_looks_0 ⟨⟨rfl, hs, rn⟩, fun m rv q => ?_⟩
  obtain ⟨q1, q2, q3, q4⟩ := q
  by_cases c : 0 ≤ n ∧ n < μ 202 0
  · obtain ⟨rfl, hb, hv, h12⟩ := q4 c
    refine ⟨rr (by omega), fun _ => ⟨⟨rfl, hb⟩, fun m4 d => vc_X11_looks_14 ?_⟩, fun q => absurd (show ¬ (1 : Int) = 0 by omega) q⟩
    obtain ⟨d1, d2⟩ := d
    have mb4 := MB_frame hb (d2 202 (by omega)) (by rw [d2 201 (by omega)]) (by rw [d2 201 (by omega)])
    refine ⟨⟨rfl, mb4.1⟩, fun m8 l => vc_X11_looks_18 (hR m8 1 ?_)⟩
    obtain ⟨l1, l2, l3⟩ := l
    have mb8 := MB_frame mb4.1 (l3 202 (by omega) (by omega)) (l2 12 (by decide)) (l2 13 (by decide))
    refine ⟨fun z h1 h2 h3 => by rw [l3 z h1 h2, d2 z h3, q1 z h1], fun e => absurd c e, fun _ => ⟨rfl, ⟨mb8.1, ?_, ?_⟩, by rw [mb8.2, mb4.2, hv]⟩⟩
    · rw [mb8.2, mb4.2]
      intro a b a0 a1 b0 b1
      rw [l3 206 (by omega) (by omega)]
      exact d1 a b a0 a1 b0 b1
    · rw [mb8.2]; exact l1
  · have e := q3 c
    subst e
    exact ⟨rr (by omega), fun q => absurd rfl q, fun _ => hR m 0 ⟨fun z h1 h2 h3 => q1 z h1, fun _ => rfl, fun e => absurd e c⟩⟩
theorem ct_X11_looks : Ct mX11_looks 2 45 0 0 (nrmS S_X11_looks) := by
  refine ct_vm (own := RX11) (by decide +kernel) rfl ?_ ?_
  · intro as μ Q hS
    unfold S_X11_looks at hS
    split at hS
    · exact Nat.le_of_ble_eq_true rfl
    · exact hS.elim
  · intro as μ R hS
    unfold S_X11_looks at hS
    split at hS
    · exact body_X11_looks hS.1 hS.2
    · exact hS.elim
def P_X11_lane (o n a b : Int) (μ : Mem) : Prop := o = 201 ∧ SOk (stM μ) ∧ r32 n ∧ r32 a ∧ r32 b
def Q_X11_lane (_ n a b : Int) (μ μ' : Mem) (r : Int) : Prop := AskM μ μ' ∧ r = onT (stM μ).1 n (-1) (laneT a b)
def S_X11_lane : S0t := fun as μ Q => match as with
  | [(2, x0), (0, x1), (0, x2), (0, x3)] => P_X11_lane x0 x1 x2 x3 μ ∧ ∀ (μ' : Mem) (r : Int), Q_X11_lane x0 x1 x2 x3 μ μ' r → Q μ' (some (kI r))
  | _ => False
theorem mono_X11_lane : Mono S_X11_lane := by
  intro as μ Q Q' h hS
  unfold S_X11_lane at hS ⊢
  split at hS
  · exact ⟨hS.1, fun μ' r q => h _ _ (hS.2 _ _ q)⟩
  · exact hS.elim
def iX11_lane : Inf := (kX11_lane, fTX11, pTX11, cTX11, lTX11, sTX11, [(219, 0, 1, 11, S_X11_isTown), (231, 0, 1, 11, S_X11_isPlace), (209, 0, 1, 11, S_X11_of)])
theorem ok_X11_lane : infOK iX11_lane mX11_lane RX11 2 43 := ⟨kkX11_lane, fTX11_ok, pTX11_ok _, cTX11_ok, lTX11_ok, sTX11_ok, c_cons ⟨mX11_isTown, 1, 22, ct_X11_isTown, mmX11_isTown, vvX11_isTown, lkX11_219, ⟨by decide, by decide⟩, ⟨_, _, rfl⟩, by decide, mono_X11_isTown⟩ (c_cons ⟨mX11_isPlace, 1, 22, ct_X11_isPlace, mmX11_isPlace, vvX11_isPlace, lkX11_231, ⟨by decide, by decide⟩, ⟨_, _, rfl⟩, by decide, mono_X11_isPlace⟩ (c_cons ⟨mX11_of, 0, 0, ct_X11_of, mmX11_of, vvX11_of, lkX11_209, ⟨by decide, by decide⟩, ⟨_, _, rfl⟩, by decide, mono_X11_of⟩ (c_nil)))⟩
theorem mt_X11_lane : mtOK [] RX11 2 43 := mt_nil
abbrev V_X11_lane (R : Mem → Option AV → Prop) (pc : Nat) (lc : List (Nat × AV)) (μ : Mem) : Prop := VM mX11_lane RX11 2 43 R pc lc [] μ
set_option maxRecDepth 20000 in
theorem vc_X11_lane_0 {R : Mem → Option AV → Prop} {n a b : Int} {μ : Mem} (H : P_X11_isTown 201 n μ ∧ (∀ (μ1 : Mem) (rv2 : Int), Q_X11_isTown 201 n μ μ1 rv2 → r32 rv2 ∧ ((rv2 = 0) → R μ1 (some (kI (-1)))) ∧ (¬ (rv2 = 0) → P_X11_isPlace 201 a μ1 ∧ r32 (F_X11_isPlace 201 a μ1) ∧ (((F_X11_isPlace 201 a μ1) = 0) → R μ1 (some (kI (-1)))) ∧ (¬ ((F_X11_isPlace 201 a μ1) = 0) → P_X11_isPlace 201 b μ1 ∧ r32 (F_X11_isPlace 201 b μ1) ∧ (((F_X11_isPlace 201 b μ1) = 0) → R μ1 (some (kI (-1)))) ∧ (¬ ((F_X11_isPlace 201 b μ1) = 0) → P_X11_of 201 ((40 + (8 * a)) + b) μ1 ∧ r32 (F_X11_of 201 ((40 + (8 * a)) + b) μ1) ∧ ((¬ (F_X11_of 201 ((40 + (8 * a)) + b) μ1) = 0) → P_X11_of 201 ((40 + (8 * a)) + b) μ1 ∧ R μ1 (some (kI (F_X11_of 201 ((40 + (8 * a)) + b) μ1)))) ∧ (¬ (¬ (F_X11_of 201 ((40 + (8 * a)) + b) μ1) = 0) → R μ1 (some (kI (-1))))))))) : V_X11_lane R 0 [(0, kR 201), (1, kI n), (2, kI a), (3, kI b)] μ := by
  refine vm_step2 mt_X11_lane ok_X11_lane [] 1000 ?_
  show isC 201 11 ∧ P_X11_isTown 201 n μ ∧ (∀ (μ1 : Mem) (rv2 : Int), Q_X11_isTown 201 n μ μ1 rv2 → r32 rv2 ∧ ((rv2 = 0) → R μ1 (some (kI (-1)))) ∧ (¬ (rv2 = 0) → isC 201 11 ∧ P_X11_isPlace 201 a μ1 ∧ r32 (F_X11_isPlace 201 a μ1) ∧ (((F_X11_isPlace 201 a μ1) = 0) → R μ1 (some (kI (-1)))) ∧ (¬ ((F_X11_isPlace 201 a μ1) = 0) → isC 201 11 ∧ P_X11_isPlace 201 b μ1 ∧ r32 (F_X11_isPlace 201 b μ1) ∧ (((F_X11_isPlace 201 b μ1) = 0) → R μ1 (some (kI (-1)))) ∧ (¬ ((F_X11_isPlace 201 b μ1) = 0) → isC 201 11 ∧ P_X11_of 201 ((40 + (8 * a)) + b) μ1 ∧ r32 (F_X11_of 201 ((40 + (8 * a)) + b) μ1) ∧ ((¬ (F_X11_of 201 ((40 + (8 * a)) + b) μ1) = 0) → isC 201 11 ∧ P_X11_of 201 ((40 + (8 * a)) + b) μ1 ∧ R μ1 (some (kI (F_X11_of 201 ((40 + (8 * a)) + b) μ1)))) ∧ (¬ (¬ (F_X11_of 201 ((40 + (8 * a)) + b) μ1) = 0) → R μ1 (some (kI (-1))))))))
  exact ⟨c_201, H.1, fun μ1 rv2 hq3 => ⟨(H.2 μ1 rv2 hq3).1, fun hc7 => ((H.2 μ1 rv2 hq3).2.1 hc7), fun hc7 => ⟨c_201, ((H.2 μ1 rv2 hq3).2.2 hc7).1, ⟨((H.2 μ1 rv2 hq3).2.2 hc7).2.1, fun hc6 => (((H.2 μ1 rv2 hq3).2.2 hc7).2.2.1 hc6), fun hc6 => ⟨c_201, (((H.2 μ1 rv2 hq3).2.2 hc7).2.2.2 hc6).1, ⟨(((H.2 μ1 rv2 hq3).2.2 hc7).2.2.2 hc6).2.1, fun hc5 => ((((H.2 μ1 rv2 hq3).2.2 hc7).2.2.2 hc6).2.2.1 hc5), fun hc5 => ⟨c_201, ((((H.2 μ1 rv2 hq3).2.2 hc7).2.2.2 hc6).2.2.2 hc5).1, ⟨((((H.2 μ1 rv2 hq3).2.2 hc7).2.2.2 hc6).2.2.2 hc5).2.1, fun hc4 => ⟨c_201, (((((H.2 μ1 rv2 hq3).2.2 hc7).2.2.2 hc6).2.2.2 hc5).2.2.1 hc4).1, (((((H.2 μ1 rv2 hq3).2.2 hc7).2.2.2 hc6).2.2.2 hc5).2.2.1 hc4).2⟩, fun hc4 => (((((H.2 μ1 rv2 hq3).2.2 hc7).2.2.2 hc6).2.2.2 hc5).2.2.2 hc4)⟩⟩⟩⟩⟩⟩⟩⟩
theorem body_X11_lane {o n a b : Int} {μ : Mem} {R : Mem → Option AV → Prop} (h : P_X11_lane o n a b μ) (hR : ∀ (μ' : Mem) (r : Int), Q_X11_lane o n a b μ μ' r → R μ' (some (kI r))) : V_X11_lane R 0 [(0, kR o), (1, kI n), (2, kI a), (3, kI b)] μ := by
  obtain ⟨rfl, hs, r_n, r_a, r_b⟩ := h
  refine vc_X11_lane_0 ⟨⟨rfl, hs, r_n⟩, fun m rv q => ?_⟩
  obtain ⟨q1, q2, q3, q4⟩ := q
  have ask : AskM μ m := fun z hz => q1 z (by omega)
  by_cases c : 0 ≤ n ∧ n < μ 202 0
  · obtain ⟨rfl, hb, hv, h12⟩ := q4 c
    have ok := hb.v
    have hp := hb.p
    have hpe := hb.2.1
    have fin : ∀ (m' : Mem) (x : Int), AskM m m' → x = (laneT a b) (vm m) → R m' (some (kI x)) := fun m' x ha hx => hR m' x ⟨ask.trans ha, by rw [hx, onM_yes c, ← hv]⟩
    have a0 := AskM_0 m
    refine ⟨rr (by omega), fun q => absurd q (by omega), fun _ => ?_⟩
    unfold laneT at fin
    have ir := isPlace_r (o := 201) (a := a) (μ := m)
    have ir2 := isPlace_r (o := 201) (a := b) (μ := m)
    refine ⟨⟨rfl, hb, r_a⟩, rr (by omega), fun d => fin m _ a0 ?_, fun d => ⟨⟨rfl, hb, r_b⟩, rr (by omega), fun e => fin m _ a0 ?_, fun e => ?_⟩⟩
    · rw [if_neg (fun q => isPlace_1.mpr q.1 d)]
    · rw [if_neg (fun q => isPlace_1.mpr q.2.1 e)]
    · have da := isPlace_1.mp d
      have db := isPlace_1.mp e
      have hv7 := vm7_nn ok (8 * a + b)
      rw [of_7' (by omega) (by omega) (by omega) (by omega)]
      refine ⟨⟨rfl, hb.1, by omega, by omega⟩, rr (by omega), fun g => ⟨⟨rfl, hb.1, by omega, by omega⟩, fin m _ a0 ?_⟩, fun g => fin m _ a0 ?_⟩
      · rw [if_pos ⟨da, db, g⟩]
      · rw [if_neg (fun q => g q.2.2)]
  · have e := q3 c
    subst e
    exact ⟨rr (by omega), fun _ => hR m _ ⟨ask, (onM_no c).symm⟩, fun q => absurd rfl q⟩
theorem ct_X11_lane : Ct mX11_lane 2 43 0 0 (nrmS S_X11_lane) := by
  refine ct_vm (own := RX11) (by decide +kernel) rfl ?_ ?_
  · intro as μ Q hS
    unfold S_X11_lane at hS
    split at hS
    · exact Nat.le_of_ble_eq_true rfl
    · exact hS.elim
  · intro as μ R hS
    unfold S_X11_lane at hS
    split at hS
    · exact body_X11_lane hS.1 hS.2
    · exact hS.elim
def P_X11_way (o n a b : Int) (μ : Mem) : Prop := o = 201 ∧ SOk (stM μ) ∧ r32 n ∧ r32 a ∧ r32 b
def Q_X11_way (_ n a b : Int) (μ μ' : Mem) (r : Int) : Prop := AskM μ μ' ∧ r = onT (stM μ).1 n (-1) (wayT a b)
def S_X11_way : S0t := fun as μ Q => match as with
  | [(2, x0), (0, x1), (0, x2), (0, x3)] => P_X11_way x0 x1 x2 x3 μ ∧ ∀ (μ' : Mem) (r : Int), Q_X11_way x0 x1 x2 x3 μ μ' r → Q μ' (some (kI r))
  | _ => False
theorem mono_X11_way : Mono S_X11_way := by
  intro as μ Q Q' h hS
  unfold S_X11_way at hS ⊢
  split at hS
  · exact ⟨hS.1, fun μ' r q => h _ _ (hS.2 _ _ q)⟩
  · exact hS.elim
def iX11_way : Inf := (kX11_way, fTX11, pTX11, cTX11, lTX11, sTX11, [(234, 0, 1, 11, S_X11_looks), (231, 0, 1, 11, S_X11_isPlace)])
theorem ok_X11_way : infOK iX11_way mX11_way RX11 3 66 := ⟨kkX11_way, fTX11_ok, pTX11_ok _, cTX11_ok, lTX11_ok, sTX11_ok, c_cons ⟨mX11_looks, 2, 45, ct_X11_looks, mmX11_looks, vvX11_looks, lkX11_234, ⟨by decide, by decide⟩, ⟨_, _, rfl⟩, by decide, mono_X11_looks⟩ (c_cons ⟨mX11_isPlace, 1, 22, ct_X11_isPlace, mmX11_isPlace, vvX11_isPlace, lkX11_231, ⟨by decide, by decide⟩, ⟨_, _, rfl⟩, by decide, mono_X11_isPlace⟩ (c_nil))⟩
theorem mt_X11_way : mtOK [] RX11 3 66 := mt_nil
abbrev V_X11_way (R : Mem → Option AV → Prop) (pc : Nat) (lc : List (Nat × AV)) (μ : Mem) : Prop := VM mX11_way RX11 3 66 R pc lc [] μ
set_option maxRecDepth 20000 in
theorem vc_X11_way_0 {R : Mem → Option AV → Prop} {n a b : Int} {μ : Mem} (H : P_X11_looks 201 n μ ∧ (∀ (μ1 : Mem) (rv2 : Int), Q_X11_looks 201 n μ μ1 rv2 → r32 rv2 ∧ ((rv2 = 0) → R μ1 (some (kI (-1)))) ∧ (¬ (rv2 = 0) → P_X11_isPlace 201 a μ1 ∧ r32 (F_X11_isPlace 201 a μ1) ∧ (((F_X11_isPlace 201 a μ1) = 0) → R μ1 (some (kI (-1)))) ∧ (¬ ((F_X11_isPlace 201 a μ1) = 0) → P_X11_isPlace 201 b μ1 ∧ r32 (F_X11_isPlace 201 b μ1) ∧ ((¬ (F_X11_isPlace 201 b μ1) = 0) → (0 ≤ ((8 * a) + b) ∧ ((8 * a) + b) < 64) ∧ R μ1 (some (kI (μ1 206 ((8 * a) + b))))) ∧ (¬ (¬ (F_X11_isPlace 201 b μ1) = 0) → R μ1 (some (kI (-1)))))))) : V_X11_way R 0 [(0, kR 201), (1, kI n), (2, kI a), (3, kI b)] μ := by
  refine vm_step2 mt_X11_way ok_X11_way [] 1000 ?_
  show isC 201 11 ∧ P_X11_looks 201 n μ ∧ (∀ (μ1 : Mem) (rv2 : Int), Q_X11_looks 201 n μ μ1 rv2 → r32 rv2 ∧ ((rv2 = 0) → R μ1 (some (kI (-1)))) ∧ (¬ (rv2 = 0) → isC 201 11 ∧ P_X11_isPlace 201 a μ1 ∧ r32 (F_X11_isPlace 201 a μ1) ∧ (((F_X11_isPlace 201 a μ1) = 0) → R μ1 (some (kI (-1)))) ∧ (¬ ((F_X11_isPlace 201 a μ1) = 0) → isC 201 11 ∧ P_X11_isPlace 201 b μ1 ∧ r32 (F_X11_isPlace 201 b μ1) ∧ ((¬ (F_X11_isPlace 201 b μ1) = 0) → isC 201 11 ∧ inA 206 0 ((8 * a) + b) ∧ R μ1 (some (kI (μ1 206 ((8 * a) + b))))) ∧ (¬ (¬ (F_X11_isPlace 201 b μ1) = 0) → R μ1 (some (kI (-1)))))))
  exact ⟨c_201, H.1, fun μ1 rv2 hq3 => ⟨(H.2 μ1 rv2 hq3).1, fun hc6 => ((H.2 μ1 rv2 hq3).2.1 hc6), fun hc6 => ⟨c_201, ((H.2 μ1 rv2 hq3).2.2 hc6).1, ⟨((H.2 μ1 rv2 hq3).2.2 hc6).2.1, fun hc5 => (((H.2 μ1 rv2 hq3).2.2 hc6).2.2.1 hc5), fun hc5 => ⟨c_201, (((H.2 μ1 rv2 hq3).2.2 hc6).2.2.2 hc5).1, ⟨(((H.2 μ1 rv2 hq3).2.2 hc6).2.2.2 hc5).2.1, fun hc4 => ⟨c_201, ⟨isArr.in a_206 ((((H.2 μ1 rv2 hq3).2.2 hc6).2.2.2 hc5).2.2.1 hc4).1.1 ((((H.2 μ1 rv2 hq3).2.2 hc6).2.2.2 hc5).2.2.1 hc4).1.2, ((((H.2 μ1 rv2 hq3).2.2 hc6).2.2.2 hc5).2.2.1 hc4).2⟩⟩, fun hc4 => ((((H.2 μ1 rv2 hq3).2.2 hc6).2.2.2 hc5).2.2.2 hc4)⟩⟩⟩⟩⟩⟩
theorem body_X11_way {o n a b : Int} {μ : Mem} {R : Mem → Option AV → Prop} (h : P_X11_way o n a b μ) (hR : ∀ (μ' : Mem) (r : Int), Q_X11_way o n a b μ μ' r → R μ' (some (kI r))) : V_X11_way R 0 [(0, kR o), (1, kI n), (2, kI a), (3, kI b)] μ := by
  obtain ⟨rfl, hs, r_n, r_a, r_b⟩ := h
  refine vc_X11_way_0 ⟨⟨rfl, hs, r_n⟩, fun m rv q => ?_⟩
  obtain ⟨q1, q3, q4⟩ := q
  have ask : AskM μ m := fun z hz => q1 z (by omega) (by omega) (by omega)
  by_cases c : 0 ≤ n ∧ n < μ 202 0
  · obtain ⟨rfl, hl, hv⟩ := q4 c
    have hb := hl.1
    have ok := hb.v
    have hp := hb.p
    have hpe := hb.2.1
    have fin : ∀ (m' : Mem) (x : Int), AskM m m' → x = (wayT a b) (vm m) → R m' (some (kI x)) := fun m' x ha hx => hR m' x ⟨ask.trans ha, by rw [hx, onM_yes c, ← hv]⟩
    have a0 := AskM_0 m
    refine ⟨rr (by omega), fun q => absurd q (by omega), fun _ => ?_⟩
    unfold wayT at fin
    have ir := isPlace_r (o := 201) (a := a) (μ := m)
    have ir2 := isPlace_r (o := 201) (a := b) (μ := m)
    refine ⟨⟨rfl, hb, r_a⟩, rr (by omega), fun d => fin m _ a0 ?_, fun d => ⟨⟨rfl, hb, r_b⟩, rr (by omega), fun e => ?_, fun e => fin m _ a0 ?_⟩⟩
    · rw [if_neg (fun q => isPlace_1.mpr q.1 d)]
    · have da := isPlace_1.mp d
      have db := isPlace_1.mp e
      refine ⟨by omega, fin m _ a0 ?_⟩
      rw [if_pos ⟨da, db⟩]
      exact hl.2.1 a b da.1 da.2 db.1 db.2
    · rw [if_neg (fun q => e (isPlace_1.mpr q.2))]
  · have e := q3 c
    subst e
    exact ⟨rr (by omega), fun _ => hR m _ ⟨ask, (onM_no c).symm⟩, fun q => absurd rfl q⟩
theorem ct_X11_way : Ct mX11_way 3 66 0 0 (nrmS S_X11_way) := by
  refine ct_vm (own := RX11) (by decide +kernel) rfl ?_ ?_
  · intro as μ Q hS
    unfold S_X11_way at hS
    split at hS
    · exact Nat.le_of_ble_eq_true rfl
    · exact hS.elim
  · intro as μ R hS
    unfold S_X11_way at hS
    split at hS
    · exact body_X11_way hS.1 hS.2
    · exact hS.elim
def P_X11_about (o n k : Int) (μ : Mem) : Prop := o = 201 ∧ SOk (stM μ) ∧ r32 n ∧ r32 k
def Q_X11_about (_ n k : Int) (μ μ' : Mem) (r : Int) : Prop := AskM μ μ' ∧ r = onT (stM μ).1 n (-1) (aboutT k)
def S_X11_about : S0t := fun as μ Q => match as with
  | [(2, x0), (0, x1), (0, x2)] => P_X11_about x0 x1 x2 μ ∧ ∀ (μ' : Mem) (r : Int), Q_X11_about x0 x1 x2 μ μ' r → Q μ' (some (kI r))
  | _ => False
theorem mono_X11_about : Mono S_X11_about := by
  intro as μ Q Q' h hS
  unfold S_X11_about at hS ⊢
  split at hS
  · exact ⟨hS.1, fun μ' r q => h _ _ (hS.2 _ _ q)⟩
  · exact hS.elim
def iX11_about : Inf := (kX11_about, fTX11, pTX11, cTX11, lTX11, sTX11, [(219, 0, 1, 11, S_X11_isTown), (162, 1, 3, 0, S_X11_isIn), (209, 0, 1, 11, S_X11_of), (228, 0, 0, 11, S_X11_total)])
theorem ok_X11_about : infOK iX11_about mX11_about RX11 2 43 := ⟨kkX11_about, fTX11_ok, pTX11_ok _, cTX11_ok, lTX11_ok, sTX11_ok, c_cons ⟨mX11_isTown, 1, 22, ct_X11_isTown, mmX11_isTown, vvX11_isTown, lkX11_219, ⟨by decide, by decide⟩, ⟨_, _, rfl⟩, by decide, mono_X11_isTown⟩ (c_cons ⟨mX11_isIn, 0, 0, ct_X11_isIn, mmX11_isIn, stX11_isIn, lkX11_162, ⟨by decide, by decide⟩, mono_X11_isIn⟩ (c_cons ⟨mX11_of, 0, 0, ct_X11_of, mmX11_of, vvX11_of, lkX11_209, ⟨by decide, by decide⟩, ⟨_, _, rfl⟩, by decide, mono_X11_of⟩ (c_cons ⟨mX11_total, 1, 21, ct_X11_total, mmX11_total, vvX11_total, lkX11_228, ⟨by decide, by decide⟩, ⟨_, _, rfl⟩, by decide, mono_X11_total⟩ (c_nil))))⟩
theorem mt_X11_about : mtOK [] RX11 2 43 := mt_nil
abbrev V_X11_about (R : Mem → Option AV → Prop) (pc : Nat) (lc : List (Nat × AV)) (μ : Mem) : Prop := VM mX11_about RX11 2 43 R pc lc [] μ
set_option maxRecDepth 20000 in
theorem vc_X11_about_0 {R : Mem → Option AV → Prop} {n k : Int} {μ : Mem} (H : P_X11_isTown 201 n μ ∧ (∀ (μ1 : Mem) (rv2 : Int), Q_X11_isTown 201 n μ μ1 rv2 → r32 rv2 ∧ ((¬ rv2 = 0) → P_X11_isIn k 10 (9 + (μ1 201 13)) μ1 ∧ r32 (F_X11_isIn k 10 (9 + (μ1 201 13)) μ1) ∧ (((F_X11_isIn k 10 (9 + (μ1 201 13)) μ1) = 0) → P_X11_isIn k 20 (19 + (μ1 201 13)) μ1 ∧ r32 (F_X11_isIn k 20 (19 + (μ1 201 13)) μ1) ∧ (((F_X11_isIn k 20 (19 + (μ1 201 13)) μ1) = 0) → P_X11_isIn k 30 (29 + (μ1 201 13)) μ1 ∧ r32 (F_X11_isIn k 30 (29 + (μ1 201 13)) μ1) ∧ (((F_X11_isIn k 30 (29 + (μ1 201 13)) μ1) = 0) → V_X11_about R 99 [(0, kR 201), (2, kI k), (3, kI 0), (4, kI 0)] μ1) ∧ (¬ ((F_X11_isIn k 30 (29 + (μ1 201 13)) μ1) = 0) → P_X11_of 201 ((30 + k) - 30) μ1 ∧ R μ1 (some (kI (F_X11_of 201 ((30 + k) - 30) μ1))))) ∧ (¬ ((F_X11_isIn k 20 (19 + (μ1 201 13)) μ1) = 0) → P_X11_of 201 ((20 + k) - 20) μ1 ∧ R μ1 (some (kI (F_X11_of 201 ((20 + k) - 20) μ1))))) ∧ (¬ ((F_X11_isIn k 10 (9 + (μ1 201 13)) μ1) = 0) → P_X11_of 201 ((10 + k) - 10) μ1 ∧ R μ1 (some (kI (F_X11_of 201 ((10 + k) - 10) μ1))))) ∧ (¬ (¬ rv2 = 0) → R μ1 (some (kI (-1)))))) : V_X11_about R 0 [(0, kR 201), (1, kI n), (2, kI k)] μ := by
  refine vm_step2 mt_X11_about ok_X11_about [(99, [0, 2, 3, 4])] 1000 ?_
  show isC 201 11 ∧ P_X11_isTown 201 n μ ∧ (∀ (μ1 : Mem) (rv2 : Int), Q_X11_isTown 201 n μ μ1 rv2 → r32 rv2 ∧ ((¬ rv2 = 0) → isC 201 11 ∧ P_X11_isIn k 10 (9 + (μ1 201 13)) μ1 ∧ r32 (F_X11_isIn k 10 (9 + (μ1 201 13)) μ1) ∧ (((F_X11_isIn k 10 (9 + (μ1 201 13)) μ1) = 0) → isC 201 11 ∧ P_X11_isIn k 20 (19 + (μ1 201 13)) μ1 ∧ r32 (F_X11_isIn k 20 (19 + (μ1 201 13)) μ1) ∧ (((F_X11_isIn k 20 (19 + (μ1 201 13)) μ1) = 0) → isC 201 11 ∧ P_X11_isIn k 30 (29 + (μ1 201 13)) μ1 ∧ r32 (F_X11_isIn k 30 (29 + (μ1 201 13)) μ1) ∧ (((F_X11_isIn k 30 (29 + (μ1 201 13)) μ1) = 0) → V_X11_about R 99 [(0, kR 201), (2, kI k), (3, kI 0), (4, kI 0)] μ1) ∧ (¬ ((F_X11_isIn k 30 (29 + (μ1 201 13)) μ1) = 0) → isC 201 11 ∧ P_X11_of 201 ((30 + k) - 30) μ1 ∧ R μ1 (some (kI (F_X11_of 201 ((30 + k) - 30) μ1))))) ∧ (¬ ((F_X11_isIn k 20 (19 + (μ1 201 13)) μ1) = 0) → isC 201 11 ∧ P_X11_of 201 ((20 + k) - 20) μ1 ∧ R μ1 (some (kI (F_X11_of 201 ((20 + k) - 20) μ1))))) ∧ (¬ ((F_X11_isIn k 10 (9 + (μ1 201 13)) μ1) = 0) → isC 201 11 ∧ P_X11_of 201 ((10 + k) - 10) μ1 ∧ R μ1 (some (kI (F_X11_of 201 ((10 + k) - 10) μ1))))) ∧ (¬ (¬ rv2 = 0) → R μ1 (some (kI (-1)))))
  exact ⟨c_201, H.1, fun μ1 rv2 hq3 => ⟨(H.2 μ1 rv2 hq3).1, fun hc7 => ⟨c_201, ⟨((H.2 μ1 rv2 hq3).2.1 hc7).1, ⟨((H.2 μ1 rv2 hq3).2.1 hc7).2.1, fun hc6 => ⟨c_201, ⟨(((H.2 μ1 rv2 hq3).2.1 hc7).2.2.1 hc6).1, ⟨(((H.2 μ1 rv2 hq3).2.1 hc7).2.2.1 hc6).2.1, fun hc5 => ⟨c_201, ⟨((((H.2 μ1 rv2 hq3).2.1 hc7).2.2.1 hc6).2.2.1 hc5).1, ⟨((((H.2 μ1 rv2 hq3).2.1 hc7).2.2.1 hc6).2.2.1 hc5).2.1, fun hc4 => (((((H.2 μ1 rv2 hq3).2.1 hc7).2.2.1 hc6).2.2.1 hc5).2.2.1 hc4), fun hc4 => ⟨c_201, (((((H.2 μ1 rv2 hq3).2.1 hc7).2.2.1 hc6).2.2.1 hc5).2.2.2 hc4).1, (((((H.2 μ1 rv2 hq3).2.1 hc7).2.2.1 hc6).2.2.1 hc5).2.2.2 hc4).2⟩⟩⟩⟩, fun hc5 => ⟨c_201, ((((H.2 μ1 rv2 hq3).2.1 hc7).2.2.1 hc6).2.2.2 hc5).1, ((((H.2 μ1 rv2 hq3).2.1 hc7).2.2.1 hc6).2.2.2 hc5).2⟩⟩⟩⟩, fun hc6 => ⟨c_201, (((H.2 μ1 rv2 hq3).2.1 hc7).2.2.2 hc6).1, (((H.2 μ1 rv2 hq3).2.1 hc7).2.2.2 hc6).2⟩⟩⟩⟩, fun hc7 => ((H.2 μ1 rv2 hq3).2.2 hc7)⟩⟩
set_option maxRecDepth 20000 in
theorem vc_X11_about_99 {R : Mem → Option AV → Prop} {k bits a : Int} {μ : Mem} (H : r32 a ∧ r32 (μ 201 13) ∧ (((μ 201 13) ≤ a) → r32 k ∧ (k < 0 ∨ 7 < k → R μ (some (kI (-1)))) ∧ (k = 0 → R μ (some (kI (μ 201 13)))) ∧ (k = 1 → P_X11_of 201 1 μ ∧ R μ (some (kI (F_X11_of 201 1 μ)))) ∧ (k = 2 → P_X11_total 201 μ ∧ R μ (some (kI (F_X11_total 201 μ)))) ∧ (k = 3 → R μ (some (kI bits))) ∧ (k = 4 → P_X11_of 201 2 μ ∧ R μ (some (kI (F_X11_of 201 2 μ)))) ∧ (k = 5 → P_X11_of 201 3 μ ∧ R μ (some (kI (F_X11_of 201 3 μ)))) ∧ (k = 6 → P_X11_of 201 4 μ ∧ R μ (some (kI (F_X11_of 201 4 μ)))) ∧ (k = 7 → P_X11_of 201 250 μ ∧ R μ (some (kI (F_X11_of 201 250 μ))))) ∧ (¬ ((μ 201 13) ≤ a) → P_X11_of 201 (10 + a) μ ∧ r32 (F_X11_of 201 (10 + a) μ) ∧ (((F_X11_of 201 (10 + a) μ) ≤ 0) → V_X11_about R 99 [(0, kR 201), (2, kI k), (3, kI (bor bits 0)), (4, kI (a + 1))] μ) ∧ (¬ ((F_X11_of 201 (10 + a) μ) ≤ 0) → V_X11_about R 99 [(0, kR 201), (2, kI k), (3, kI (bor bits (bshl 1 a))), (4, kI (a + 1))] μ))) : V_X11_about R 99 [(0, kR 201), (2, kI k), (3, kI bits), (4, kI a)] μ := by
  refine vm_step2 mt_X11_about ok_X11_about [(99, [0, 2, 3, 4])] 1000 ?_
  show isC 201 11 ∧ (r32 a ∧ r32 (μ 201 13)) ∧ (((μ 201 13) ≤ a) → r32 k ∧ (k < 0 ∨ 7 < k → R μ (some (kI (-1)))) ∧ (k = 0 → isC 201 11 ∧ R μ (some (kI (μ 201 13)))) ∧ (k = 1 → isC 201 11 ∧ P_X11_of 201 1 μ ∧ R μ (some (kI (F_X11_of 201 1 μ)))) ∧ (k = 2 → isC 201 11 ∧ P_X11_total 201 μ ∧ R μ (some (kI (F_X11_total 201 μ)))) ∧ (k = 3 → R μ (some (kI bits))) ∧ (k = 4 → isC 201 11 ∧ P_X11_of 201 2 μ ∧ R μ (some (kI (F_X11_of 201 2 μ)))) ∧ (k = 5 → isC 201 11 ∧ P_X11_of 201 3 μ ∧ R μ (some (kI (F_X11_of 201 3 μ)))) ∧ (k = 6 → isC 201 11 ∧ P_X11_of 201 4 μ ∧ R μ (some (kI (F_X11_of 201 4 μ)))) ∧ (k = 7 → isC 201 11 ∧ P_X11_of 201 250 μ ∧ R μ (some (kI (F_X11_of 201 250 μ)))) ∧ True) ∧ (¬ ((μ 201 13) ≤ a) → isC 201 11 ∧ P_X11_of 201 (10 + a) μ ∧ r32 (F_X11_of 201 (10 + a) μ) ∧ (((F_X11_of 201 (10 + a) μ) ≤ 0) → V_X11_about R 99 [(0, kR 201), (2, kI k), (3, kI (bor bits 0)), (4, kI (a + 1))] μ) ∧ (¬ ((F_X11_of 201 (10 + a) μ) ≤ 0) → V_X11_about R 99 [(0, kR 201), (2, kI k), (3, kI (bor bits (bshl 1 a))), (4, kI (a + 1))] μ))
  exact ⟨c_201, ⟨⟨H.1, H.2.1⟩, fun hc10 => ⟨(H.2.2.1 hc10).1, fun hc8 => ((H.2.2.1 hc10).2.1 hc8), fun hc8 => ⟨c_201, ((H.2.2.1 hc10).2.2.1 hc8)⟩, fun hc8 => ⟨c_201, ((H.2.2.1 hc10).2.2.2.1 hc8).1, ((H.2.2.1 hc10).2.2.2.1 hc8).2⟩, fun hc8 => ⟨c_201, ((H.2.2.1 hc10).2.2.2.2.1 hc8).1, ((H.2.2.1 hc10).2.2.2.2.1 hc8).2⟩, fun hc8 => ((H.2.2.1 hc10).2.2.2.2.2.1 hc8), fun hc8 => ⟨c_201, ((H.2.2.1 hc10).2.2.2.2.2.2.1 hc8).1, ((H.2.2.1 hc10).2.2.2.2.2.2.1 hc8).2⟩, fun hc8 => ⟨c_201, ((H.2.2.1 hc10).2.2.2.2.2.2.2.1 hc8).1, ((H.2.2.1 hc10).2.2.2.2.2.2.2.1 hc8).2⟩, fun hc8 => ⟨c_201, ((H.2.2.1 hc10).2.2.2.2.2.2.2.2.1 hc8).1, ((H.2.2.1 hc10).2.2.2.2.2.2.2.2.1 hc8).2⟩, fun hc8 => ⟨c_201, ((H.2.2.1 hc10).2.2.2.2.2.2.2.2.2 hc8).1, ((H.2.2.1 hc10).2.2.2.2.2.2.2.2.2 hc8).2⟩, trivial⟩, fun hc10 => ⟨c_201, (H.2.2.2 hc10).1, ⟨(H.2.2.2 hc10).2.1, fun hc9 => ((H.2.2.2 hc10).2.2.1 hc9), fun hc9 => ((H.2.2.2 hc10).2.2.2 hc9)⟩⟩⟩⟩
theorem body_X11_about {o n k : Int} {μ : Mem} {R : Mem → Option AV → Prop} (h : P_X11_about o n k μ) (hR : ∀ (μ' : Mem) (r : Int), Q_X11_about o n k μ μ' r → R μ' (some (kI r))) : V_X11_about R 0 [(0, kR o), (1, kI n), (2, kI k)] μ := by
  obtain ⟨rfl, hs, r_n, r_k⟩ := h
  refine vc_X11_about_0 ⟨⟨rfl, hs, r_n⟩, fun m rv q => ?_⟩
  obtain ⟨q1, q2, q3, q4⟩ := q
  have ask : AskM μ m := fun z hz => q1 z (by omega)
  by_cases c : 0 ≤ n ∧ n < μ 202 0
  · obtain ⟨rfl, hb, hv, h12⟩ := q4 c
    have ok := hb.v
    have hp := hb.p
    have hpe := hb.2.1
    have fin : ∀ (m' : Mem) (x : Int), AskM m m' → x = (aboutT k) (vm m) → R m' (some (kI x)) := fun m' x ha hx => hR m' x ⟨ask.trans ha, by rw [hx, onM_yes c, ← hv]⟩
    have a0 := AskM_0 m
    refine ⟨rr (by omega), fun _ => ?_, fun q => absurd (show ¬ (1 : Int) = 0 by omega) q⟩
    have i1 := isIn_r (x := k) (lo := 10) (hi := 9 + m 201 13) (μ := m)
    have i2 := isIn_r (x := k) (lo := 20) (hi := 19 + m 201 13) (μ := m)
    have i3 := isIn_r (x := k) (lo := 30) (hi := 29 + m 201 13) (μ := m)
    have ab : ∀ x : Int, x = aboutT k (vm m) → R m (some (kI x)) := fun x hx => fin m x a0 hx
    have ea : aboutT k (vm m) = aboutV (vm m) (sm (vm m 4) (vm m 0 0)) (cellV (vm m)) k := rfl
    have ep : ∀ x : Int, 8 ≤ k → x = aboutP (vm m) k → R m (some (kI x)) := fun x hk hx => ab x (by
      rw [hx, ea]
      unfold aboutV
      rw [if_neg (by omega), if_neg (by omega), if_neg (by omega), if_neg (by omega), if_neg (by omega), if_neg (by omega), if_neg (by omega), if_neg (by omega)])
    refine ⟨⟨r_k, rr (by omega), rr (by omega)⟩, rr (by omega), fun d1 => ⟨⟨r_k, rr (by omega), rr (by omega)⟩, rr (by omega), fun d2 => ⟨⟨r_k, rr (by omega), rr (by omega)⟩, rr (by omega), fun d3 => ?_, fun d3 => ?_⟩, fun d2 => ?_⟩, fun d1 => ?_⟩
    · -- the numbers of the town itself
      have n1 : ¬ (10 ≤ k ∧ k ≤ 9 + m 201 13) := fun q => isIn_1.mpr q d1
      have n2 : ¬ (20 ≤ k ∧ k ≤ 19 + m 201 13) := fun q => isIn_1.mpr q d2
      have n3 : ¬ (30 ≤ k ∧ k ≤ 29 + m 201 13) := fun q => isIn_1.mpr q d3
      have eP : aboutP (vm m) k = -1 := by
        unfold aboutP
        rw [if_neg (by omega), if_neg (by omega), if_neg (by omega)]
      have key := up_ind (P := fun a => V_X11_about R 99 [(0, kR 201), (2, kI k), (3, kI (bitsV (fun a => decide (0 < vm m 4 a)) a)), (4, kI a)] m) (lo := 0) (hi := m 201 13) ?_ ?_
      · exact key 0 (by omega) (by omega)
      · intro a h0 h1 ih
        have h4 := (ok.2.2.2.1 a h0 (by omega)).1
        have hs := bitsV_s (p := fun a => decide (0 < vm m 4 a)) h0
        have hbd := bitsV_bd (p := fun a => decide (0 < vm m 4 a)) h0
        refine vc_X11_about_99 ?_
        rw [of_4 h0 (by omega)]
        refine ⟨rr (by omega), rr (by omega), fun c => absurd c (by omega), fun _ => ⟨⟨rfl, hb.1, by omega, by omega⟩, rr (by omega), fun e => ?_, fun e => ?_⟩⟩
        · have e0 : bor (bitsV (fun a => decide (0 < vm m 4 a)) a) 0 = bitsV (fun a => decide (0 < vm m 4 a)) (a + 1) := by
            rw [hs, if_neg (by rw [decide_eq_false (by omega)]; decide)]
            have pw : (2 ^ a.toNat : Nat) ≤ 2 ^ 8 := Nat.pow_le_pow_right (by omega) (by omega)
            rw [b_or hbd.1 (by omega) (by omega) (by omega)]
            simp
            omega
          rw [e0]; exact ih
        · rw [bitsV_or h0 (by omega)]
          rw [if_pos (decide_eq_true (by omega))] at hs
          rw [← hs]; exact ih
      · have ex : bitsV (fun a => decide (0 < vm m 4 a)) (m 201 13) = cellV (vm m) := by rw [hpe]; rfl
        rw [ex]
        have w8 := ok.2.2.2.2.2.2.2.1
        refine vc_X11_about_99 ⟨rr (by omega), rr (by omega), fun _ => ⟨r_k, fun e => ab _ ?_, fun e => ab _ ?_, fun e => ⟨⟨rfl, hb.1, by omega, by omega⟩, ab _ ?_⟩, fun e => ⟨⟨rfl, hb⟩, ab _ ?_⟩, fun e => ab _ ?_, fun e => ⟨⟨rfl, hb.1, by omega, by omega⟩, ab _ ?_⟩, fun e => ⟨⟨rfl, hb.1, by omega, by omega⟩, ab _ ?_⟩, fun e => ⟨⟨rfl, hb.1, by omega, by omega⟩, ab _ ?_⟩, fun e => ⟨⟨rfl, hb.1, by omega, by omega⟩, ab _ ?_⟩⟩, fun c => absurd (Int.le_refl _) c⟩
        · rw [ea]
          unfold aboutV
          rw [if_neg (by omega), if_neg (by omega), if_neg (by omega), if_neg (by omega), if_neg (by omega), if_neg (by omega), if_neg (by omega), if_neg (by omega), eP]
        · rw [ea, e]; exact hpe
        · rw [ea, e]; rfl
        · rw [ea, e]; exact all8 ok
        · rw [ea, e]; rfl
        · rw [ea, e]; rfl
        · rw [ea, e]; rfl
        · rw [ea, e]; rfl
        · rw [ea, e]; rfl
    · have q := isIn_1.mp d3
      refine ⟨⟨rfl, hb.1, by omega, by omega⟩, ep _ (by omega) ?_⟩
      unfold aboutP
      rw [show (30 + k) - 30 = 30 + (k - 30) by omega, of_6 (by omega) (by omega), if_neg (by omega), if_neg (by omega), if_pos (by omega)]
    · have q := isIn_1.mp d2
      refine ⟨⟨rfl, hb.1, by omega, by omega⟩, ep _ (by omega) ?_⟩
      unfold aboutP
      rw [show (20 + k) - 20 = 20 + (k - 20) by omega, of_5 (by omega) (by omega), if_neg (by omega), if_pos (by omega)]
    · have q := isIn_1.mp d1
      refine ⟨⟨rfl, hb.1, by omega, by omega⟩, ep _ (by omega) ?_⟩
      unfold aboutP
      rw [show (10 + k) - 10 = 10 + (k - 10) by omega, of_4 (by omega) (by omega), if_pos (by omega)]
  · have e := q3 c
    subst e
    exact ⟨rr (by omega), fun q => absurd rfl q, fun _ => hR m _ ⟨ask, (onM_no c).symm⟩⟩
theorem ct_X11_about : Ct mX11_about 2 43 0 0 (nrmS S_X11_about) := by
  refine ct_vm (own := RX11) (by decide +kernel) rfl ?_ ?_
  · intro as μ Q hS
    unfold S_X11_about at hS
    split at hS
    · exact Nat.le_of_ble_eq_true rfl
    · exact hS.elim
  · intro as μ R hS
    unfold S_X11_about at hS
    split at hS
    · exact body_X11_about hS.1 hS.2
    · exact hS.elim
