def P_X11_wrongWhole (o : Int) (μ : Mem) : Prop := o = 201 ∧ ∃ v : TV, RdOk v ∧ RVm v μ
def Q_X11_wrongWhole (_ : Int) (μ : Mem) (r : Int) : Prop := ∀ v : TV, RdOk v → RVm v μ → ∀ L : Int, r = (endV v L).1.1
def S_X11_wrongWhole : S0t := fun as μ Q => match as with
  | [(2, x0)] => P_X11_wrongWhole x0 μ ∧ ∀ (r : Int), Q_X11_wrongWhole x0 μ r → Q μ (some (kI r))
  | _ => False
theorem mono_X11_wrongWhole : Mono S_X11_wrongWhole := by
  intro as μ Q Q' h hS
  unfold S_X11_wrongWhole at hS ⊢
  split at hS
  · exact ⟨hS.1, fun r q => h _ _ (hS.2 _ q)⟩
  · exact hS.elim
def iX11_wrongWhole : Inf := (kX11_wrongWhole, fTX11, pTX11, cTX11, lTX11, sTX11, [(191, 0, 1, 11, S_X11_lanesAt)])
theorem ok_X11_wrongWhole : infOK iX11_wrongWhole mX11_wrongWhole RX11 1 23 := ⟨kkX11_wrongWhole, fTX11_ok, pTX11_ok _, cTX11_ok, lTX11_ok, sTX11_ok, c_cons ⟨mX11_lanesAt, 0, 0, ct_X11_lanesAt, mmX11_lanesAt, vvX11_lanesAt, lkX11_191, ⟨by decide, by decide⟩, ⟨_, _, rfl⟩, by decide, mono_X11_lanesAt⟩ (c_nil)⟩
theorem mt_X11_wrongWhole : mtOK [] RX11 1 23 := mt_nil
abbrev V_X11_wrongWhole (R : Mem → Option AV → Prop) (pc : Nat) (lc : List (Nat × AV)) (μ : Mem) : Prop := VM mX11_wrongWhole RX11 1 23 R pc lc [] μ
set_option maxRecDepth 20000 in
theorem vc_X11_wrongWhole_0 {R : Mem → Option AV → Prop} {μ : Mem} (H : V_X11_wrongWhole R 9 [(0, kR 201), (1, kI 0), (2, kI 1), (3, kI 0), (4, kI 0)] μ) : V_X11_wrongWhole R 0 [(0, kR 201)] μ := by
  refine vm_step2 mt_X11_wrongWhole ok_X11_wrongWhole [(9, [0, 1, 2, 3, 4]), (66, [0, 1, 2, 3, 4]), (76, [0, 1, 2, 3, 4, 5])] 1000 ?_
  show V_X11_wrongWhole R 9 [(0, kR 201), (1, kI 0), (2, kI 1), (3, kI 0), (4, kI 0)] μ
  exact H
set_option maxRecDepth 20000 in
theorem vc_X11_wrongWhole_9 {R : Mem → Option AV → Prop} {sum met cr a : Int} {μ : Mem} (H : r32 a ∧ (((8 : Int) ≤ a) → V_X11_wrongWhole R 66 [(0, kR 201), (1, kI sum), (2, kI met), (3, kI cr), (4, kI 0)] μ) ∧ (¬ ((8 : Int) ≤ a) → (0 ≤ (10 + a) ∧ (10 + a) < 104) ∧ r32 cr ∧ ((¬ cr = 0) → V_X11_wrongWhole R 9 [(0, kR 201), (1, kI (sum + (μ 204 (10 + a)))), (2, kI met), (3, kI 1), (4, kI (a + 1))] μ) ∧ (¬ (¬ cr = 0) → P_X11_lanesAt 201 a μ ∧ r32 ((F_X11_lanesAt 201 a μ) * (μ 204 3)) ∧ ((((F_X11_lanesAt 201 a μ) * (μ 204 3)) ≤ (12 : Int)) → V_X11_wrongWhole R 9 [(0, kR 201), (1, kI (sum + (μ 204 (10 + a)))), (2, kI met), (3, kI 0), (4, kI (a + 1))] μ) ∧ (¬ (((F_X11_lanesAt 201 a μ) * (μ 204 3)) ≤ (12 : Int)) → V_X11_wrongWhole R 9 [(0, kR 201), (1, kI (sum + (μ 204 (10 + a)))), (2, kI met), (3, kI 1), (4, kI (a + 1))] μ)))) : V_X11_wrongWhole R 9 [(0, kR 201), (1, kI sum), (2, kI met), (3, kI cr), (4, kI a)] μ := by
  refine vm_step2 mt_X11_wrongWhole ok_X11_wrongWhole [(9, [0, 1, 2, 3, 4]), (66, [0, 1, 2, 3, 4]), (76, [0, 1, 2, 3, 4, 5])] 1000 ?_
  show (r32 a ∧ r32 (8 : Int)) ∧ (((8 : Int) ≤ a) → V_X11_wrongWhole R 66 [(0, kR 201), (1, kI sum), (2, kI met), (3, kI cr), (4, kI 0)] μ) ∧ (¬ ((8 : Int) ≤ a) → isC 201 11 ∧ inA 204 0 (10 + a) ∧ r32 cr ∧ ((¬ cr = 0) → V_X11_wrongWhole R 9 [(0, kR 201), (1, kI (sum + (μ 204 (10 + a)))), (2, kI met), (3, kI 1), (4, kI (a + 1))] μ) ∧ (¬ (¬ cr = 0) → isC 201 11 ∧ P_X11_lanesAt 201 a μ ∧ isC 201 11 ∧ inA 204 0 (3 : Int) ∧ (r32 ((F_X11_lanesAt 201 a μ) * (μ 204 3)) ∧ r32 (12 : Int)) ∧ ((((F_X11_lanesAt 201 a μ) * (μ 204 3)) ≤ (12 : Int)) → V_X11_wrongWhole R 9 [(0, kR 201), (1, kI (sum + (μ 204 (10 + a)))), (2, kI met), (3, kI 0), (4, kI (a + 1))] μ) ∧ (¬ (((F_X11_lanesAt 201 a μ) * (μ 204 3)) ≤ (12 : Int)) → V_X11_wrongWhole R 9 [(0, kR 201), (1, kI (sum + (μ 204 (10 + a)))), (2, kI met), (3, kI 1), (4, kI (a + 1))] μ)))
  exact ⟨⟨H.1, by unfold r32; omega⟩, fun hc3 => (H.2.1 hc3), fun hc3 => ⟨c_201, ⟨isArr.in a_204 (H.2.2 hc3).1.1 (H.2.2 hc3).1.2, ⟨(H.2.2 hc3).2.1, fun hc2 => ((H.2.2 hc3).2.2.1 hc2), fun hc2 => ⟨c_201, ((H.2.2 hc3).2.2.2 hc2).1, ⟨c_201, ⟨isArr.in a_204 (by omega) (by omega), ⟨⟨((H.2.2 hc3).2.2.2 hc2).2.1, by unfold r32; omega⟩, fun hc1 => (((H.2.2 hc3).2.2.2 hc2).2.2.1 hc1), fun hc1 => (((H.2.2 hc3).2.2.2 hc2).2.2.2 hc1)⟩⟩⟩⟩⟩⟩⟩⟩
set_option maxRecDepth 20000 in
theorem vc_X11_wrongWhole_66 {R : Mem → Option AV → Prop} {sum met cr a : Int} {μ : Mem} (H : r32 a ∧ (((8 : Int) ≤ a) → r32 sum ∧ ((¬ sum = 0) → r32 met ∧ r32 ((bshl 1 (μ 204 0)) - 1) ∧ ((met = ((bshl 1 (μ 204 0)) - 1)) → r32 cr ∧ ((cr = 0) → R μ (some (kI 0))) ∧ (¬ (cr = 0) → R μ (some (kI 6)))) ∧ (¬ (met = ((bshl 1 (μ 204 0)) - 1)) → R μ (some (kI 5)))) ∧ (¬ (¬ sum = 0) → R μ (some (kI 4)))) ∧ (¬ ((8 : Int) ≤ a) → V_X11_wrongWhole R 76 [(0, kR 201), (1, kI sum), (2, kI met), (3, kI cr), (4, kI a), (5, kI 0)] μ)) : V_X11_wrongWhole R 66 [(0, kR 201), (1, kI sum), (2, kI met), (3, kI cr), (4, kI a)] μ := by
  refine vm_step2 mt_X11_wrongWhole ok_X11_wrongWhole [(9, [0, 1, 2, 3, 4]), (66, [0, 1, 2, 3, 4]), (76, [0, 1, 2, 3, 4, 5])] 1000 ?_
  show (r32 a ∧ r32 (8 : Int)) ∧ (((8 : Int) ≤ a) → r32 sum ∧ ((¬ sum = 0) → isC 201 11 ∧ inA 204 0 (0 : Int) ∧ (r32 met ∧ r32 ((bshl 1 (μ 204 0)) - 1)) ∧ ((met = ((bshl 1 (μ 204 0)) - 1)) → r32 cr ∧ ((cr = 0) → R μ (some (kI 0))) ∧ (¬ (cr = 0) → R μ (some (kI 6)))) ∧ (¬ (met = ((bshl 1 (μ 204 0)) - 1)) → R μ (some (kI 5)))) ∧ (¬ (¬ sum = 0) → R μ (some (kI 4)))) ∧ (¬ ((8 : Int) ≤ a) → V_X11_wrongWhole R 76 [(0, kR 201), (1, kI sum), (2, kI met), (3, kI cr), (4, kI a), (5, kI 0)] μ)
  exact ⟨⟨H.1, by unfold r32; omega⟩, fun hc7 => ⟨(H.2.1 hc7).1, fun hc6 => ⟨c_201, ⟨isArr.in a_204 (by omega) (by omega), ⟨⟨((H.2.1 hc7).2.1 hc6).1, ((H.2.1 hc7).2.1 hc6).2.1⟩, fun hc5 => ⟨(((H.2.1 hc7).2.1 hc6).2.2.1 hc5).1, fun hc4 => ((((H.2.1 hc7).2.1 hc6).2.2.1 hc5).2.1 hc4), fun hc4 => ((((H.2.1 hc7).2.1 hc6).2.2.1 hc5).2.2 hc4)⟩, fun hc5 => (((H.2.1 hc7).2.1 hc6).2.2.2 hc5)⟩⟩⟩, fun hc6 => ((H.2.1 hc7).2.2 hc6)⟩, fun hc7 => (H.2.2 hc7)⟩
set_option maxRecDepth 20000 in
theorem vc_X11_wrongWhole_76 {R : Mem → Option AV → Prop} {sum met cr a k : Int} {μ : Mem} (H : r32 k ∧ (((64 : Int) ≤ k) → V_X11_wrongWhole R 66 [(0, kR 201), (1, kI sum), (2, kI met), (3, kI cr), (4, kI (a + 1))] μ) ∧ (¬ ((64 : Int) ≤ k) → r32 k ∧ r32 (band (bshr met (Int.tdiv k 8)) 1) ∧ ((¬ (band (bshr met (Int.tdiv k 8)) 1) = (1 : Int)) → V_X11_wrongWhole R 76 [(0, kR 201), (1, kI sum), (2, kI met), (3, kI cr), (4, kI a), (5, kI (k + 1))] μ) ∧ (¬ (¬ (band (bshr met (Int.tdiv k 8)) 1) = (1 : Int)) → (0 ≤ (40 + k) ∧ (40 + k) < 104) ∧ r32 (μ 204 (40 + k)) ∧ (((μ 204 (40 + k)) ≤ 0) → V_X11_wrongWhole R 76 [(0, kR 201), (1, kI sum), (2, kI met), (3, kI cr), (4, kI a), (5, kI (k + 1))] μ) ∧ (¬ ((μ 204 (40 + k)) ≤ 0) → r32 k ∧ V_X11_wrongWhole R 76 [(0, kR 201), (1, kI sum), (2, kI (bor met (bshl 1 (Int.tmod k 8)))), (3, kI cr), (4, kI a), (5, kI (k + 1))] μ)))) : V_X11_wrongWhole R 76 [(0, kR 201), (1, kI sum), (2, kI met), (3, kI cr), (4, kI a), (5, kI k)] μ := by
  refine vm_step2 mt_X11_wrongWhole ok_X11_wrongWhole [(9, [0, 1, 2, 3, 4]), (66, [0, 1, 2, 3, 4]), (76, [0, 1, 2, 3, 4, 5])] 1000 ?_
  show (r32 k ∧ r32 (64 : Int)) ∧ (((64 : Int) ≤ k) → V_X11_wrongWhole R 66 [(0, kR 201), (1, kI sum), (2, kI met), (3, kI cr), (4, kI (a + 1))] μ) ∧ (¬ ((64 : Int) ≤ k) → (r32 k ∧ r32 (8 : Int) ∧ (8 : Int) ≠ 0) ∧ (r32 (band (bshr met (Int.tdiv k 8)) 1) ∧ r32 (1 : Int)) ∧ ((¬ (band (bshr met (Int.tdiv k 8)) 1) = (1 : Int)) → V_X11_wrongWhole R 76 [(0, kR 201), (1, kI sum), (2, kI met), (3, kI cr), (4, kI a), (5, kI (k + 1))] μ) ∧ (¬ (¬ (band (bshr met (Int.tdiv k 8)) 1) = (1 : Int)) → isC 201 11 ∧ inA 204 0 (40 + k) ∧ r32 (μ 204 (40 + k)) ∧ (((μ 204 (40 + k)) ≤ 0) → V_X11_wrongWhole R 76 [(0, kR 201), (1, kI sum), (2, kI met), (3, kI cr), (4, kI a), (5, kI (k + 1))] μ) ∧ (¬ ((μ 204 (40 + k)) ≤ 0) → (r32 k ∧ r32 (8 : Int) ∧ (8 : Int) ≠ 0) ∧ V_X11_wrongWhole R 76 [(0, kR 201), (1, kI sum), (2, kI (bor met (bshl 1 (Int.tmod k 8)))), (3, kI cr), (4, kI a), (5, kI (k + 1))] μ)))
  exact ⟨⟨H.1, by unfold r32; omega⟩, fun hc10 => (H.2.1 hc10), fun hc10 => ⟨⟨(H.2.2 hc10).1, by unfold r32; omega, by omega⟩, ⟨⟨(H.2.2 hc10).2.1, by unfold r32; omega⟩, fun hc9 => ((H.2.2 hc10).2.2.1 hc9), fun hc9 => ⟨c_201, ⟨isArr.in a_204 ((H.2.2 hc10).2.2.2 hc9).1.1 ((H.2.2 hc10).2.2.2 hc9).1.2, ⟨((H.2.2 hc10).2.2.2 hc9).2.1, fun hc8 => (((H.2.2 hc10).2.2.2 hc9).2.2.1 hc8), fun hc8 => ⟨⟨(((H.2.2 hc10).2.2.2 hc9).2.2.2 hc8).1, by unfold r32; omega, by omega⟩, (((H.2.2 hc10).2.2.2 hc9).2.2.2 hc8).2⟩⟩⟩⟩⟩⟩⟩
theorem end_same {v v' : TV} {m : Mem} {L L' : Int} (h : RVm v m) (h' : RVm v' m) (ok : TVok v) (ok' : TVok v') : (endV v L).1.1 = (endV v' L').1.1 := by
  obtain ⟨r0, r1, r2, r3, r4, r7, r8⟩ := h
  obtain ⟨s0, s1, s2, s3, s4, s7, s8⟩ := h'
  have hp := ok.1
  have e0 : v 0 0 = v' 0 0 := by rw [← r0, s0]
  have e3 : v 3 0 = v' 3 0 := by rw [← r3, s3]
  have e7 : ∀ a b : Int, 0 ≤ a → a < 8 → 0 ≤ b → b < 8 → v 7 (8 * a + b) = v' 7 (8 * a + b) := fun a b a0 a1 b0 b1 => by rw [← r7 _ (by omega) (by omega), s7 _ (by omega) (by omega)]
  have es : sm (v 4) (v 0 0) = sm (v' 4) (v' 0 0) := by
    rw [← e0]
    exact sm_congr fun a a0 a1 => by rw [← (r4 a a0 (by omega)).1, (s4 a a0 (by omega)).1]
  have el : ∀ a : Int, 0 ≤ a → a < v 0 0 → lanesV v a = lanesV v' a := fun a a0 a1 => by
    unfold lanesV
    rw [← e0]
    exact sm_congr fun b b0 b1 => by rw [e7 a b a0 (by omega) b0 (by omega)]
  have ew : ∀ a : Int, 0 ≤ a → a < v 0 0 → wayV v 0 a = wayV v' 0 a := fun a a0 a1 => by
    unfold wayV
    rw [← e0]
    exact fw_congr (fun x y x0 x1 y0 y1 => by unfold fwI; rw [e7 x y x0 (by omega) y0 (by omega)]) (v 0 0) (by omega) (Int.le_refl _) 0 a (by omega) (by omega) a0 a1
  have a1 : allV (fun a => decide (wayV v 0 a < 1000000)) (v 0 0) = allV (fun a => decide (wayV v' 0 a < 1000000)) (v' 0 0) := by
    rw [← e0]
    exact allV_congr fun a x y => by rw [ew a x y]
  have a2 : allV (fun a => decide (lanesV v a * v 3 0 ≤ 12)) (v 0 0) = allV (fun a => decide (lanesV v' a * v' 3 0 ≤ 12)) (v' 0 0) := by
    rw [← e0]
    exact allV_congr fun a x y => by rw [el a x y, e3]
  unfold endV
  rw [es, a1, a2]
  repeat' split
  all_goals rfl
theorem body_X11_wrongWhole {o : Int} {μ : Mem} {R : Mem → Option AV → Prop} (h : P_X11_wrongWhole o μ) (hR : ∀ r : Int, Q_X11_wrongWhole o μ r → R μ (some (kI r))) : V_X11_wrongWhole R 0 [(0, kR o)] μ := by
  obtain ⟨rfl, v, hv, hr⟩ := h
  have ok := hv.1
  have hp := ok.1
  obtain ⟨c7, c3, c0, c4⟩ := RV_cell hv hr
  have fin : ∀ r : Int, r = (endV v 0).1.1 → R μ (some (kI r)) := fun r hx => hR r (fun v' hv' hr' L => by rw [hx]; exact end_same hr hr' ok hv'.1)
  obtain ⟨r0, r1, r2, r3, r4, r7, r8⟩ := hr
  have l7 : ∀ a b : Int, 0 ≤ a → a < 8 → 0 ≤ b → b < 8 → μ 204 (40 + 8 * a + b) = v 7 (8 * a + b) := fun a b a0 a1 b0 b1 => by rw [← r7 (8 * a + b) (by omega) (by omega), show 40 + (8 * a + b) = 40 + 8 * a + b by omega]
  have h7 := ok.2.2.2.2.2.2.1
  have cut7 : ∀ a b : Int, 0 ≤ a → a < 8 → 0 ≤ b → b < 8 → v 7 (8 * a + b) ≠ 0 → a < v 0 0 ∧ b < v 0 0 := fun a b a0 a1 b0 b1 h => by
    have q1 := h7 a b a0 a1 b0 b1
    have q2 := h7 b a b0 b1 a0 a1
    constructor
    · exact Classical.byContradiction fun x => h (q1.2.2 (by omega))
    · exact Classical.byContradiction fun x => h (by rw [q1.1]; exact q2.2.2 (by omega))
  have el : ∀ a : Int, 0 ≤ a → a < 8 → F_X11_lanesAt 201 a μ = lanesV v a := fun a a0 a1 => by
    unfold F_X11_lanesAt lanesV
    rw [sm_tail (n := v 0 0) (m := 8) (by omega) (by omega) (fun b b0 b1 => ?_)]
    · refine sm_congr fun b b0 b1 => ?_
      have cb := ok.2.2.2.2.2.1 (8 * a + b) (by omega) (by omega)
      show (if μ 204 (40 + 8 * a + b) ≤ 0 then (0 : Int) else 1) = _
      rw [l7 a b a0 a1 b0 (by omega)]
      by_cases z : v 7 (8 * a + b) = 0
      · rw [if_pos (by omega), if_pos z]
      · rw [if_neg (by omega), if_neg z]
    · show (if μ 204 (40 + 8 * a + b) ≤ 0 then (0 : Int) else 1) = 0
      rw [l7 a b a0 a1 (by omega) b1]
      have : v 7 (8 * a + b) = 0 := Classical.byContradiction fun q => by have := (cut7 a b a0 a1 (by omega) b1 q).2; omega
      rw [this, if_pos (by omega)]
  have lz : ∀ a : Int, v 0 0 ≤ a → a < 8 → lanesV v a = 0 := fun a a0 a1 => by
    unfold lanesV
    have : sm (fun b => if v 7 (8 * a + b) = 0 then 0 else 1) (v 0 0) = sm (fun _ => 0) (v 0 0) := sm_congr fun b b0 b1 => by rw [(h7 a b (by omega) a1 b0 (by omega)).2.2 a0, if_pos rfl]
    rw [this, sm_zero (by omega)]
  have w00 := (way_net ok 0 0 (by omega) (by omega) (by omega) (by omega)).2
  -- what is met
  obtain ⟨Snd, eSnd⟩ : ∃ Snd : Int → Prop, ∀ x, Snd x = ((0 ≤ x ∧ x < 256) ∧ ∀ b : Int, 0 ≤ b → b < 8 → hasB x b = true → b < v 0 0 ∧ wayV v 0 b < 1000000) := ⟨_, fun _ => rfl⟩
  obtain ⟨Cmp, eCmp⟩ : ∃ Cmp : Int → Int → Prop, ∀ x i, Cmp x i = (joined v → ∀ a : Int, 0 ≤ a → a < v 0 0 → cnt (fun b => decide (wayV v 0 b < wayV v 0 a)) (v 0 0) ≤ i → hasB x a = true) := ⟨_, fun _ _ => rfl⟩
  have bw : ∀ x, Snd x → 0 ≤ x ∧ x < 256 := fun x hx => by rw [eSnd] at hx; exact hx.1
  -- the rounds
  have rounds := up_ind (P := fun i => ∀ (met cr sum : Int), Snd met → Cmp met i → sum = sm (v 4) (v 0 0) → (cr = 1 ∧ ¬ (∀ a : Int, 0 ≤ a → a < v 0 0 → lanesV v a * v 3 0 ≤ 12) ∨ cr = 0 ∧ ∀ a : Int, 0 ≤ a → a < v 0 0 → lanesV v a * v 3 0 ≤ 12) → V_X11_wrongWhole R 66 [(0, kR 201), (1, kI sum), (2, kI met), (3, kI cr), (4, kI i)] μ) (lo := 0) (hi := 8) ?_ ?_
  rotate_left
  · intro i i0 i1 ih met cr sum hs hc hsum hcr
    refine vc_X11_wrongWhole_66 ⟨rr (by omega), fun q => absurd q (by omega), fun _ => ?_⟩
    refine up_ind (P := fun k => ∀ met' : Int, Snd met' → (∀ b : Int, 0 ≤ b → b < 8 → hasB met b = true → hasB met' b = true) → (∀ k' : Int, 0 ≤ k' → k' < k → hasB met (k' / 8) = true → v 7 k' ≠ 0 → hasB met' (k' % 8) = true) → V_X11_wrongWhole R 76 [(0, kR 201), (1, kI sum), (2, kI met'), (3, kI cr), (4, kI i), (5, kI k)] μ) (lo := 0) (hi := 64) ?_ ?_ 0 (by omega) (by omega) met hs (fun _ _ _ h => h) (fun k' q1 q2 => by omega)
    · intro k k0 k1 ihk met' hs' hm hd
      have bm := bw met' hs'
      have et := b_tst (s := met') (a := k / 8) (by omega) (by omega) (by omega) (by omega)
      have ed : Int.tdiv k 8 = k / 8 := Int.tdiv_eq_ediv_of_nonneg k0
      have em : Int.tmod k 8 = k % 8 := Int.tmod_eq_emod_of_nonneg k0
      have e7 := r7 k k0 k1
      have b7 := ok.2.2.2.2.2.1 k k0 k1
      have keep : (hasB met' (k / 8) = true → v 7 k = 0) → V_X11_wrongWhole R 76 [(0, kR 201), (1, kI sum), (2, kI met'), (3, kI cr), (4, kI i), (5, kI (k + 1))] μ := fun hk => ihk met' hs' hm (fun k' q1 q2 h1 h2 => by
        by_cases e : k' = k
        · rw [e] at h1 h2
          exact absurd (hk (hm _ (by omega) (by omega) h1)) h2
        · exact hd k' q1 (by omega) h1 h2)
      refine vc_X11_wrongWhole_76 ?_
      rw [ed, em, et, e7]
      by_cases hb : hasB met' (k / 8) = true
      · rw [if_pos hb]
        refine ⟨rr (by omega), fun q => absurd q (by omega), fun _ => ⟨rr (by omega), rr (by omega), fun q => absurd rfl q, fun _ => ⟨by omega, rr (by omega), fun q => keep (fun _ => by omega), fun q => ⟨rr (by omega), ?_⟩⟩⟩⟩
        obtain ⟨ob, oh⟩ := has_or (x := met') (a := k % 8) bm.1 bm.2 (by omega) (by omega)
        refine ihk _ ?_ (fun b b0 b1 h => ?_) (fun k' q1 q2 h1 h2 => ?_)
        · rw [eSnd] at hs' ⊢
          refine ⟨ob, fun b b0 b1 h => ?_⟩
          rw [oh b b0 b1, Bool.or_eq_true] at h
          rcases h with h | h
          · exact hs'.2 b b0 b1 h
          · have e := of_decide_eq_true h
            have hx := hs'.2 (k / 8) (by omega) (by omega) hb
            have ek : 8 * (k / 8) + k % 8 = k := by omega
            have c := cut7 (k / 8) (k % 8) (by omega) (by omega) (by omega) (by omega) (by rw [ek]; omega)
            have st := way_step ok (s := 0) (a := k % 8) (b := k / 8) (by omega) (by omega) (by omega) c.2 (by omega) c.1 (by rw [ek]; omega)
            have wl := way_len ok (s := 0) (a := k / 8) (by omega) (by omega) (by omega) c.1 hx.2
            rw [ek] at st
            rw [e]
            exact ⟨c.2, by omega⟩
        · rw [oh b b0 b1, hm b b0 b1 h]; rfl
        · rw [oh _ (by omega) (by omega)]
          by_cases e : k' = k
          · rw [e, decide_eq_true rfl, Bool.or_true]
          · rw [hd k' q1 (by omega) h1 h2]; rfl
      · rw [if_neg hb]
        exact ⟨rr (by omega), fun q => absurd q (by omega), fun _ => ⟨rr (by omega), rr (by omega), fun _ => keep (fun w => absurd w hb), fun q => absurd (show ¬ (0 : Int) = 1 by omega) q⟩⟩
    · intro met' hs' hm hd
      refine vc_X11_wrongWhole_76 ⟨rr (by omega), fun _ => ih met' cr sum hs' ?_ hsum hcr, fun q => absurd (Int.le_refl _) q⟩
      rw [eCmp] at hc ⊢
      intro hj a a0 a1 hcnt
      by_cases z : a = 0
      · exact hm a a0 (by omega) (hc hj a a0 a1 (by
          rw [z]
          have : cnt (fun b => decide (wayV v 0 b < wayV v 0 0)) (v 0 0) = 0 := by
            unfold cnt
            have : sm (fun i => if decide (wayV v 0 i < wayV v 0 0) = true then (1 : Int) else 0) (v 0 0) = sm (fun _ => 0) (v 0 0) := sm_congr fun b b0 b1 => by
              have := (way_net ok 0 b (by omega) (by omega) b0 b1).1
              rw [if_neg (fun q => by have := of_decide_eq_true q; omega)]
            rw [this, sm_zero (by omega)]
          omega))
      · have pi := par_in ok a
        have pl := par_lt ok hj (show 0 < a by omega) a1
        have cl := cnt_lt (p := fun b => decide (wayV v 0 b < wayV v 0 (parV v a))) (q := fun b => decide (wayV v 0 b < wayV v 0 a)) (n := v 0 0) (x := parV v a) (fun i _ _ q => by simp at q ⊢; omega) pi.1 pi.2 (by simp) (by simp; omega)
        have hpar := hc hj (parV v a) pi.1 pi.2 (by omega)
        have hs7 := (h7 a (parV v a) a0 (by omega) pi.1 (by omega)).1
        have := hd (8 * parV v a + a) (by omega) (by omega) (by rw [show (8 * parV v a + a) / 8 = parV v a by omega]; exact hpar) (by rw [← hs7]; exact pl.1)
        rw [show (8 * parV v a + a) % 8 = a by omega] at this
        exact this
  · intro met cr sum hs hc hsum hcr
    have bm := bw met hs
    have esh := b_shl (k := μ 204 0) (by omega) (by omega)
    have p2 := pw2_le (c := v 0 0) (by omega) (by omega)
    rw [r0] at esh
    have sb := sm_bd (f := v 4) (n := v 0 0) (c := 0) (d := 99) (fun a a0 a1 => (ok.2.2.2.1 a a0 (by omega)).1) (by omega)
    have fullj : met = ((2 ^ (v 0 0).toNat : Nat) : Int) - 1 ↔ joined v := by
      rw [eSnd] at hs
      rw [eCmp] at hc
      constructor
      · intro e a a0 a1
        have : hasB met a = true := by rw [e, has_all (by omega) a0]; exact decide_eq_true a1
        exact (hs.2 a a0 (by omega) this).2
      · intro hj
        refine set_ext bm.1 bm.2 (by omega) (by omega) (fun a a0 a1 => ?_)
        rw [has_all (by omega) a0]
        by_cases q : a < v 0 0
        · rw [decide_eq_true q]
          exact hc hj a a0 q (by have := cnt7 ok a0 q; omega)
        · rw [decide_eq_false q]
          cases w : hasB met a
          · rfl
          · exact absurd (hs.2 a a0 a1 w).1 q
    have aj : allV (fun a => decide (wayV v 0 a < 1000000)) (v 0 0) = true ↔ joined v := by
      rw [allV_ok (by omega)]
      exact ⟨fun h a a0 a1 => of_decide_eq_true (h a a0 a1), fun h a a0 a1 => decide_eq_true (h a a0 a1)⟩
    have ac : allV (fun a => decide (lanesV v a * v 3 0 ≤ 12)) (v 0 0) = true ↔ ∀ a : Int, 0 ≤ a → a < v 0 0 → lanesV v a * v 3 0 ≤ 12 := by
      rw [allV_ok (by omega)]
      exact ⟨fun h a a0 a1 => of_decide_eq_true (h a a0 a1), fun h a a0 a1 => decide_eq_true (h a a0 a1)⟩
    unfold endV at fin
    refine vc_X11_wrongWhole_66 ?_
    rw [r0, esh, hsum]
    refine ⟨rr (by omega), fun _ => ⟨rr (by omega), fun c1 => ⟨rr (by omega), rr (by omega), fun c2 => ⟨by rcases hcr with e | e <;> rw [e.1] <;> exact rr (by omega), fun c3 => fin 0 ?_, fun c3 => fin 6 ?_⟩, fun c2 => fin 5 ?_⟩, fun c1 => fin 4 ?_⟩, fun q => absurd (Int.le_refl _) q⟩
    · rw [if_neg c1, if_neg (fun q => q (aj.mpr (fullj.mp c2))), if_neg (fun q => q (ac.mpr (by rcases hcr with e | e; omega; exact e.2)))]
    · rw [if_neg c1, if_neg (fun q => q (aj.mpr (fullj.mp c2))), if_pos (fun q => by
        rcases hcr with e | e
        · exact e.2 (ac.mp q)
        · exact c3 e.1)]
    · rw [if_neg c1, if_pos (fun q => c2 (fullj.mpr (aj.mp q)))]
    · rw [if_pos (Classical.not_not.mp c1)]
  -- the sums
  have sums := up_ind (P := fun a => ∀ cr : Int, (cr = 1 ∧ ¬ (∀ a : Int, 0 ≤ a → a < v 0 0 → lanesV v a * v 3 0 ≤ 12) ∨ cr = 0 ∧ ∀ a' : Int, 0 ≤ a' → a' < a → lanesV v a' * v 3 0 ≤ 12) → V_X11_wrongWhole R 9 [(0, kR 201), (1, kI (sm (fun a => μ 204 (10 + a)) a)), (2, kI 1), (3, kI cr), (4, kI a)] μ) (lo := 0) (hi := 8) ?_ ?_
  · exact vc_X11_wrongWhole_0 (sums 0 (by omega) (by omega) 0 (Or.inr ⟨rfl, fun a' q1 q2 => by omega⟩))
  · intro a a0 a1 ih cr hcr
    have ea := el a a0 a1
    have lb := lanesV_bd ok (a := a)
    have mb := mul_bd lb.1 lb.2 c3.1 c3.2
    rw [sm_s a0] at ih
    refine vc_X11_wrongWhole_9 ?_
    rw [ea]
    refine ⟨rr (by omega), fun q => absurd q (by omega), fun _ => ⟨by omega, by rcases hcr with e | e <;> rw [e.1] <;> exact rr (by omega), fun q => ih 1 (Or.inl ⟨rfl, ?_⟩), fun q => ⟨⟨rfl, by omega, c7⟩, rr (by omega), fun w => ih 0 (Or.inr ⟨rfl, fun a' q1 q2 => ?_⟩), fun w => ih 1 (Or.inl ⟨rfl, fun hall => ?_⟩)⟩⟩⟩
    · rcases hcr with e | e
      · exact e.2
      · exact absurd e.1 q
    · by_cases e : a' = a
      · rw [e, ← r3]; exact w
      · rcases hcr with f | f
        · exact absurd (Classical.not_not.mp q) (by omega)
        · exact f.2 a' q1 (by omega)
    · by_cases e : a < v 0 0
      · have := hall a a0 e
        rw [← r3] at this
        exact w this
      · rw [lz a (by omega) a1, Int.zero_mul] at w
        omega
  · intro cr hcr
    have es : sm (fun a => μ 204 (10 + a)) 8 = sm (v 4) (v 0 0) := by
      rw [← all8 ok]
      exact sm_congr fun a a0 a1 => (r4 a a0 a1).1
    refine vc_X11_wrongWhole_9 ⟨rr (by omega), fun _ => rounds 0 (by omega) (by omega) 1 cr _ ?_ ?_ es ?_, fun q => absurd (Int.le_refl _) q⟩
    · rw [eSnd]
      refine ⟨by omega, fun b b0 b1 h => ?_⟩
      have : b = 0 := by
        have key : ∀ b : Nat, b < 8 → hasB 1 (b : Int) = true → b = 0 := by decide +kernel
        have := key b.toNat (by omega) (by rw [Int.toNat_of_nonneg b0]; exact h)
        omega
      rw [this, w00]
      omega
    · rw [eCmp]
      intro hj a a0 a1 hcnt
      have : a = 0 := Classical.byContradiction fun z => by
        have hi := par_in ok a
        have hl := par_lt ok hj (show 0 < a by omega) a1
        have h1 := cnt_lt (p := fun _ => false) (q := fun b => decide (wayV v 0 b < wayV v 0 a)) (n := v 0 0) (x := parV v a) (fun _ _ _ q => by simp at q) hi.1 hi.2 rfl (by simp; omega)
        have h2 := cnt_bd (p := fun _ => false) (n := v 0 0) (by omega)
        omega
      rw [this]
      decide
    · rcases hcr with e | e
      · exact Or.inl e
      · exact Or.inr ⟨e.1, fun a a0 a1 => e.2 a a0 (by omega)⟩
theorem ct_X11_wrongWhole : Ct mX11_wrongWhole 1 23 0 0 (nrmS S_X11_wrongWhole) := by
  refine ct_vm (own := RX11) (by decide +kernel) rfl ?_ ?_
  · intro as μ Q hS
    unfold S_X11_wrongWhole at hS
    split at hS
    · exact Nat.le_of_ble_eq_true rfl
    · exact hS.elim
  · intro as μ R hS
    unfold S_X11_wrongWhole at hS
    split at hS
    · exact body_X11_wrongWhole hS.1 hS.2
    · exact hS.elim
