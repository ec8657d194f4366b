/-! the model: both by chances -/
def Fk (μ : Mem) (c r : Int) : Int := μ 209 (24 * c + r)
def GPm (μ : Mem) (s : Int) : Prop := (0 ≤ s ∧ s < 256) ∧ (1 ≤ popc s ∧ popc s ≤ 4) ∧ CR μ s ∧ GW (Wm μ) s
def prU (n r k : Int) : Int := ((2 ^ n.toNat : Nat) : Int) - 1 - (prT n r k).1
def prZ (n r k : Int) : Bool := decide (0 ≤ ordV n r k) && decide (ordV n r k < n) && hasB (prT n r k).1 (ordV n r k) && decide (cntB (prT n r k).1 (ordV n r k) = Int.tdiv (prT n r k).2 (SV 0 (n - 1 - k))) && decide (bor (prU n r k) (bshl 1 (ordV n r k)) = prU n r (k + 1)) && decide (Int.tdiv (SV 0 (n - k)) (n - k) = SV 0 (n - 1 - k)) && (List.range n.toNat).all (fun x => decide (band (bshr (prU n r k) x) 1 = if hasB (prT n r k).1 x = true then 0 else 1))
theorem prZ_tabB : ((List.range 5).all fun n => (List.range 24).all fun r => !decide ((r : Int) < SV 0 n) || (List.range n).all fun k => prZ n r k) = true := by decide +kernel
theorem prZ_at {n r k : Int} (n0 : 0 ≤ n) (n4 : n ≤ 4) (r0 : 0 ≤ r) (r1 : r < SV 0 n) (k0 : 0 ≤ k) (k1 : k < n) : hasB (prT n r k).1 (ordV n r k) = true ∧ cntB (prT n r k).1 (ordV n r k) = Int.tdiv (prT n r k).2 (SV 0 (n - 1 - k)) ∧ bor (prU n r k) (bshl 1 (ordV n r k)) = prU n r (k + 1) ∧ Int.tdiv (SV 0 (n - k)) (n - k) = SV 0 (n - 1 - k) ∧ ∀ x : Int, 0 ≤ x → x < n → band (bshr (prU n r k) x) 1 = if hasB (prT n r k).1 x = true then 0 else 1 := by
  have h24 := (sv0_bd n0 n4).2.2
  have h := List.all_eq_true.mp prZ_tabB n.toNat (List.mem_range.mpr (by omega))
  have h := List.all_eq_true.mp h r.toNat (List.mem_range.mpr (by omega))
  rw [Int.toNat_of_nonneg n0, Int.toNat_of_nonneg r0, decide_eq_true r1, Bool.not_true, Bool.false_or] at h
  have h := List.all_eq_true.mp h k.toNat (List.mem_range.mpr (by omega))
  rw [Int.toNat_of_nonneg k0] at h
  unfold prZ at h
  simp only [Bool.and_eq_true, decide_eq_true_eq] at h
  refine ⟨h.1.1.1.1.2, h.1.1.1.2, h.1.1.2, h.1.2, fun x x0 x1 => ?_⟩
  have hx := List.all_eq_true.mp h.2 x.toNat (List.mem_range.mpr (by omega))
  rw [Int.toNat_of_nonneg x0] at hx
  exact of_decide_eq_true hx
theorem cntB_mono' {s a b : Int} (a0 : 0 ≤ a) (ab : a < b) (h : hasB s a = true) : cntB s a + 1 ≤ cntB s b := by
  have h1 := cntB_s (s := s) a0
  rw [if_pos h] at h1
  have h2 := cntB_mono (s := s) (a := a + 1) (b := b) (by omega) (by omega)
  omega
theorem GW_W {W W' : Int → Int → Int} {s : Int} (h : sameW W W' s) (hg : GW W s) : GW W' s := ⟨hg.1, fun a b a0 a1 ha b0 b1 hb => by rw [← h a b a0 a1 ha b0 b1 hb]; exact hg.2 a b a0 a1 ha b0 b1 hb⟩
def P_X11_rowsOf (n : Int) (_ : Mem) : Prop := r32 n
def F_X11_rowsOf (n : Int) (_ : Mem) : Int := if n = 1 then 1 else if n = 2 then 2 else if n = 3 then 6 else 24
def S_X11_rowsOf : S0t := fun as μ Q => match as with
  | [(0, x0)] => P_X11_rowsOf x0 μ ∧ Q μ (some (kI (F_X11_rowsOf x0 μ)))
  | _ => False
theorem mono_X11_rowsOf : Mono S_X11_rowsOf := by
  intro as μ Q Q' h hS
  unfold S_X11_rowsOf at hS ⊢
  split at hS
  · exact ⟨hS.1, h _ _ hS.2⟩
  · exact hS.elim
def iX11_rowsOf : Inf := (kX11_rowsOf, fTX11, pTX11, cTX11, lTX11, sTX11, [])
theorem ok_X11_rowsOf : infOK iX11_rowsOf mX11_rowsOf RX11 0 0 := ⟨kkX11_rowsOf, fTX11_ok, pTX11_ok _, cTX11_ok, lTX11_ok, sTX11_ok, c_nil⟩
theorem mt_X11_rowsOf : mtOK [] RX11 0 0 := mt_nil
abbrev V_X11_rowsOf (R : Mem → Option AV → Prop) (pc : Nat) (lc : List (Nat × AV)) (μ : Mem) : Prop := VM mX11_rowsOf RX11 0 0 R pc lc [] μ
set_option maxRecDepth 20000 in
theorem vc_X11_rowsOf_0 {R : Mem → Option AV → Prop} {n : Int} {μ : Mem} (H : r32 n ∧ ((¬ n = (1 : Int)) → r32 n ∧ ((¬ n = (2 : Int)) → r32 n ∧ ((¬ n = (3 : Int)) → R μ (some (kI 24))) ∧ (¬ (¬ n = (3 : Int)) → R μ (some (kI 6)))) ∧ (¬ (¬ n = (2 : Int)) → R μ (some (kI 2)))) ∧ (¬ (¬ n = (1 : Int)) → R μ (some (kI 1)))) : V_X11_rowsOf R 0 [(0, kI n)] μ := by
  refine vm_step2 mt_X11_rowsOf ok_X11_rowsOf [] 1000 ?_
  show (r32 n ∧ r32 (1 : Int)) ∧ ((¬ n = (1 : Int)) → (r32 n ∧ r32 (2 : Int)) ∧ ((¬ n = (2 : Int)) → (r32 n ∧ r32 (3 : Int)) ∧ ((¬ n = (3 : Int)) → R μ (some (kI 24))) ∧ (¬ (¬ n = (3 : Int)) → R μ (some (kI 6)))) ∧ (¬ (¬ n = (2 : Int)) → R μ (some (kI 2)))) ∧ (¬ (¬ n = (1 : Int)) → R μ (some (kI 1)))
  exact ⟨⟨H.1, by unfold r32; omega⟩, fun hc3 => ⟨⟨(H.2.1 hc3).1, by unfold r32; omega⟩, fun hc2 => ⟨⟨((H.2.1 hc3).2.1 hc2).1, by unfold r32; omega⟩, fun hc1 => (((H.2.1 hc3).2.1 hc2).2.1 hc1), fun hc1 => (((H.2.1 hc3).2.1 hc2).2.2 hc1)⟩, fun hc2 => ((H.2.1 hc3).2.2 hc2)⟩, fun hc3 => (H.2.2 hc3)⟩
theorem body_X11_rowsOf {n : Int} {μ : Mem} {R : Mem → Option AV → Prop} (h : P_X11_rowsOf n μ) (hR : R μ (some (kI (F_X11_rowsOf n μ)))) : V_X11_rowsOf R 0 [(0, kI n)] μ := by
  have h : r32 n := h
  unfold F_X11_rowsOf at hR
  refine vc_X11_rowsOf_0 ⟨h, fun a => ⟨h, fun b => ⟨h, fun c => ?_, fun c => ?_⟩, fun b => ?_⟩, fun a => ?_⟩
  · rw [if_neg a, if_neg b, if_neg c] at hR; exact hR
  · rw [if_neg a, if_neg b, if_pos (Classical.not_not.mp c)] at hR; exact hR
  · rw [if_neg a, if_pos (Classical.not_not.mp b)] at hR; exact hR
  · rw [if_pos (Classical.not_not.mp a)] at hR; exact hR
theorem rows_sv {n : Int} {μ : Mem} (h1 : 1 ≤ n) (h4 : n ≤ 4) : F_X11_rowsOf n μ = SV 0 n := by
  unfold F_X11_rowsOf
  rcases (by omega : n = 1 ∨ n = 2 ∨ n = 3 ∨ n = 4) with e | e | e | e <;> subst e <;> decide +kernel
theorem ct_X11_rowsOf : Ct mX11_rowsOf 0 0 0 0 (nrmS S_X11_rowsOf) := by
  refine ct_vm (own := RX11) (by decide +kernel) rfl ?_ ?_
  · intro as μ Q hS
    unfold S_X11_rowsOf at hS
    split at hS
    · exact Nat.le_of_ble_eq_true rfl
    · exact hS.elim
  · intro as μ R hS
    unfold S_X11_rowsOf at hS
    split at hS
    · exact body_X11_rowsOf hS.1 hS.2
    · exact hS.elim
def P_X11_rowAt (o r : Int) (μ : Mem) : Prop := o = 201 ∧ (1 ≤ μ 201 14 ∧ μ 201 14 ≤ 4) ∧ μ 201 19 = SV 0 (μ 201 14) ∧ 0 ≤ r ∧ r < SV 0 (μ 201 14)
def Q_X11_rowAt (_ r : Int) (μ μ' : Mem) : Prop := (∀ k : Int, 0 ≤ k → k < μ 201 14 → μ' 210 k = ordV (μ 201 14) r k) ∧ ∀ z : Int, z ≠ 210 → μ' z = μ z
def S_X11_rowAt : S0t := fun as μ Q => match as with
  | [(2, x0), (0, x1)] => P_X11_rowAt x0 x1 μ ∧ ∀ (μ' : Mem) , Q_X11_rowAt x0 x1 μ μ'  → Q μ' none
  | _ => False
theorem mono_X11_rowAt : Mono S_X11_rowAt := by
  intro as μ Q Q' h hS
  unfold S_X11_rowAt at hS ⊢
  split at hS
  · exact ⟨hS.1, fun μ' q => h _ _ (hS.2 _ q)⟩
  · exact hS.elim
def iX11_rowAt : Inf := (kX11_rowAt, fTX11, pTX11, cTX11, lTX11, sTX11, [])
theorem ok_X11_rowAt : infOK iX11_rowAt mX11_rowAt RX11 0 0 := ⟨kkX11_rowAt, fTX11_ok, pTX11_ok _, cTX11_ok, lTX11_ok, sTX11_ok, c_nil⟩
theorem mt_X11_rowAt : mtOK [] RX11 0 0 := mt_nil
abbrev V_X11_rowAt (R : Mem → Option AV → Prop) (pc : Nat) (lc : List (Nat × AV)) (μ : Mem) : Prop := VM mX11_rowAt RX11 0 0 R pc lc [] μ
set_option maxRecDepth 20000 in
theorem vc_X11_rowAt_0 {R : Mem → Option AV → Prop} {r : Int} {μ : Mem} (H : V_X11_rowAt R 13 [(0, kR 201), (2, kI r), (3, kI (μ 201 19)), (4, kI 0), (5, kI 0)] μ) : V_X11_rowAt R 0 [(0, kR 201), (1, kI r)] μ := by
  refine vm_step2 mt_X11_rowAt ok_X11_rowAt [(13, [0, 2, 3, 4, 5]), (44, [0, 2, 3, 4, 5, 6, 7]), (88, [0, 2, 3, 4, 5, 7])] 1000 ?_
  show isC 201 11 ∧ V_X11_rowAt R 13 [(0, kR 201), (2, kI r), (3, kI (μ 201 19)), (4, kI 0), (5, kI 0)] μ
  exact ⟨c_201, H⟩
set_option maxRecDepth 20000 in
theorem vc_X11_rowAt_13 {R : Mem → Option AV → Prop} {left unit used k : Int} {μ : Mem} (H : r32 k ∧ r32 (μ 201 14) ∧ (((μ 201 14) ≤ k) → R μ none) ∧ (¬ ((μ 201 14) ≤ k) → (r32 unit ∧ r32 ((μ 201 14) - k) ∧ ((μ 201 14) - k) ≠ 0) ∧ (r32 left ∧ r32 (Int.tdiv unit ((μ 201 14) - k)) ∧ (Int.tdiv unit ((μ 201 14) - k)) ≠ 0) ∧ (r32 left ∧ r32 (Int.tdiv unit ((μ 201 14) - k)) ∧ (Int.tdiv unit ((μ 201 14) - k)) ≠ 0) ∧ V_X11_rowAt R 44 [(0, kR 201), (2, kI (Int.tmod left (Int.tdiv unit ((μ 201 14) - k)))), (3, kI (Int.tdiv unit ((μ 201 14) - k))), (4, kI used), (5, kI k), (6, kI (Int.tdiv left (Int.tdiv unit ((μ 201 14) - k)))), (7, kI 0)] μ)) : V_X11_rowAt R 13 [(0, kR 201), (2, kI left), (3, kI unit), (4, kI used), (5, kI k)] μ := by
  refine vm_step2 mt_X11_rowAt ok_X11_rowAt [(13, [0, 2, 3, 4, 5]), (44, [0, 2, 3, 4, 5, 6, 7]), (88, [0, 2, 3, 4, 5, 7])] 1000 ?_
  show isC 201 11 ∧ (r32 k ∧ r32 (μ 201 14)) ∧ (((μ 201 14) ≤ k) → R μ none) ∧ (¬ ((μ 201 14) ≤ k) → isC 201 11 ∧ (r32 unit ∧ r32 ((μ 201 14) - k) ∧ ((μ 201 14) - k) ≠ 0) ∧ (r32 left ∧ r32 (Int.tdiv unit ((μ 201 14) - k)) ∧ (Int.tdiv unit ((μ 201 14) - k)) ≠ 0) ∧ (r32 left ∧ r32 (Int.tdiv unit ((μ 201 14) - k)) ∧ (Int.tdiv unit ((μ 201 14) - k)) ≠ 0) ∧ V_X11_rowAt R 44 [(0, kR 201), (2, kI (Int.tmod left (Int.tdiv unit ((μ 201 14) - k)))), (3, kI (Int.tdiv unit ((μ 201 14) - k))), (4, kI used), (5, kI k), (6, kI (Int.tdiv left (Int.tdiv unit ((μ 201 14) - k)))), (7, kI 0)] μ)
  exact ⟨c_201, ⟨⟨H.1, H.2.1⟩, fun hc1 => (H.2.2.1 hc1), fun hc1 => ⟨c_201, ⟨(H.2.2.2 hc1).1, ⟨(H.2.2.2 hc1).2.1, ⟨(H.2.2.2 hc1).2.2.1, (H.2.2.2 hc1).2.2.2⟩⟩⟩⟩⟩⟩
set_option maxRecDepth 20000 in
theorem vc_X11_rowAt_44 {R : Mem → Option AV → Prop} {left unit used k skip x : Int} {μ : Mem} (H : r32 (band (bshr used x) 1) ∧ (((band (bshr used x) 1) = (1 : Int)) → r32 (band (bshr used x) 1) ∧ ((¬ (band (bshr used x) 1) = 0) → V_X11_rowAt R 44 [(0, kR 201), (2, kI left), (3, kI unit), (4, kI used), (5, kI k), (6, kI skip), (7, kI (x + 1))] μ) ∧ (¬ (¬ (band (bshr used x) 1) = 0) → V_X11_rowAt R 44 [(0, kR 201), (2, kI left), (3, kI unit), (4, kI used), (5, kI k), (6, kI (skip + (-1))), (7, kI (x + 1))] μ)) ∧ (¬ ((band (bshr used x) 1) = (1 : Int)) → r32 skip ∧ ((skip ≤ 0) → (0 ≤ k ∧ k < 4) ∧ V_X11_rowAt R 88 [(0, kR 201), (2, kI left), (3, kI unit), (4, kI used), (5, kI k), (7, kI x)] (updm μ 210 k x)) ∧ (¬ (skip ≤ 0) → r32 (band (bshr used x) 1) ∧ ((¬ (band (bshr used x) 1) = 0) → V_X11_rowAt R 44 [(0, kR 201), (2, kI left), (3, kI unit), (4, kI used), (5, kI k), (6, kI skip), (7, kI (x + 1))] μ) ∧ (¬ (¬ (band (bshr used x) 1) = 0) → V_X11_rowAt R 44 [(0, kR 201), (2, kI left), (3, kI unit), (4, kI used), (5, kI k), (6, kI (skip + (-1))), (7, kI (x + 1))] μ)))) : V_X11_rowAt R 44 [(0, kR 201), (2, kI left), (3, kI unit), (4, kI used), (5, kI k), (6, kI skip), (7, kI x)] μ := by
  refine vm_step2 mt_X11_rowAt ok_X11_rowAt [(13, [0, 2, 3, 4, 5]), (44, [0, 2, 3, 4, 5, 6, 7]), (88, [0, 2, 3, 4, 5, 7])] 1000 ?_
  show (r32 (band (bshr used x) 1) ∧ r32 (1 : Int)) ∧ (((band (bshr used x) 1) = (1 : Int)) → r32 (band (bshr used x) 1) ∧ ((¬ (band (bshr used x) 1) = 0) → V_X11_rowAt R 44 [(0, kR 201), (2, kI left), (3, kI unit), (4, kI used), (5, kI k), (6, kI skip), (7, kI (x + 1))] μ) ∧ (¬ (¬ (band (bshr used x) 1) = 0) → V_X11_rowAt R 44 [(0, kR 201), (2, kI left), (3, kI unit), (4, kI used), (5, kI k), (6, kI (skip + (-1))), (7, kI (x + 1))] μ)) ∧ (¬ ((band (bshr used x) 1) = (1 : Int)) → r32 skip ∧ ((skip ≤ 0) → isC 201 11 ∧ inA 210 0 k ∧ V_X11_rowAt R 88 [(0, kR 201), (2, kI left), (3, kI unit), (4, kI used), (5, kI k), (7, kI x)] (updm μ 210 k x)) ∧ (¬ (skip ≤ 0) → r32 (band (bshr used x) 1) ∧ ((¬ (band (bshr used x) 1) = 0) → V_X11_rowAt R 44 [(0, kR 201), (2, kI left), (3, kI unit), (4, kI used), (5, kI k), (6, kI skip), (7, kI (x + 1))] μ) ∧ (¬ (¬ (band (bshr used x) 1) = 0) → V_X11_rowAt R 44 [(0, kR 201), (2, kI left), (3, kI unit), (4, kI used), (5, kI k), (6, kI (skip + (-1))), (7, kI (x + 1))] μ)))
  exact ⟨⟨H.1, by unfold r32; omega⟩, fun hc5 => ⟨(H.2.1 hc5).1, fun hc2 => ((H.2.1 hc5).2.1 hc2), fun hc2 => ((H.2.1 hc5).2.2 hc2)⟩, fun hc5 => ⟨(H.2.2 hc5).1, fun hc4 => ⟨c_201, ⟨isArr.in a_210 ((H.2.2 hc5).2.1 hc4).1.1 ((H.2.2 hc5).2.1 hc4).1.2, ((H.2.2 hc5).2.1 hc4).2⟩⟩, fun hc4 => ⟨((H.2.2 hc5).2.2 hc4).1, fun hc3 => (((H.2.2 hc5).2.2 hc4).2.1 hc3), fun hc3 => (((H.2.2 hc5).2.2 hc4).2.2 hc3)⟩⟩⟩
set_option maxRecDepth 20000 in
theorem vc_X11_rowAt_88 {R : Mem → Option AV → Prop} {left unit used k x : Int} {μ : Mem} (H : V_X11_rowAt R 13 [(0, kR 201), (2, kI left), (3, kI unit), (4, kI (bor used (bshl 1 x))), (5, kI (k + 1))] μ) : V_X11_rowAt R 88 [(0, kR 201), (2, kI left), (3, kI unit), (4, kI used), (5, kI k), (7, kI x)] μ := by
  refine vm_step2 mt_X11_rowAt ok_X11_rowAt [(13, [0, 2, 3, 4, 5]), (44, [0, 2, 3, 4, 5, 6, 7]), (88, [0, 2, 3, 4, 5, 7])] 1000 ?_
  show V_X11_rowAt R 13 [(0, kR 201), (2, kI left), (3, kI unit), (4, kI (bor used (bshl 1 x))), (5, kI (k + 1))] μ
  exact H
theorem body_X11_rowAt {o r : Int} {μ : Mem} {R : Mem → Option AV → Prop} (h : P_X11_rowAt o r μ) (hR : ∀ μ' : Mem, Q_X11_rowAt o r μ μ' → R μ' none) : V_X11_rowAt R 0 [(0, kR o), (1, kI r)] μ := by
  obtain ⟨rfl, hn, h19, hr⟩ := h
  unfold Q_X11_rowAt at hR
  generalize hne : μ 201 14 = n at *
  have key := up_ind (P := fun k => ∀ m : Mem, (∀ z : Int, z ≠ 210 → m z = μ z) → (∀ j : Int, 0 ≤ j → j < k → m 210 j = ordV n r j) → V_X11_rowAt R 13 [(0, kR 201), (2, kI (prT n r k).2), (3, kI (SV 0 (n - k))), (4, kI (prU n r k)), (5, kI k)] m) (lo := 0) (hi := n) ?_ ?_
  · refine vc_X11_rowAt_0 ?_
    rw [h19]
    have k0 := key 0 (by omega) (by omega) μ (fun _ _ => rfl) (fun j j0 j1 => absurd j0 (by omega))
    have e1 : (prT n r 0).2 = r := rfl
    have e2 : prU n r 0 = 0 := by
      show ((2 ^ n.toNat : Nat) : Int) - 1 - (((2 ^ n.toNat : Nat) : Int) - 1) = 0
      omega
    rw [e1, e2, show n - 0 = n by omega] at k0
    exact k0
  · intro k k0 k1 ih m hf hs
    have e14 : m 201 14 = n := by rw [hf 201 (by omega), hne]
    obtain ⟨z1, z2, z3, z4, z5⟩ := prZ_at (by omega) hn.2 hr.1 hr.2 k0 k1
    obtain ⟨⟨p1, p2, p3, p4, p5⟩, _⟩ := pr_at (by omega) hn.2 hr.1 hr.2 k0 k1
    have sv := sv0_bd (n := n - k) (by omega) (by omega)
    have es := prT_s (n := n) (r := r) k0
    have ih' := fun m a b => ih m a b
    rw [es] at ih'
    refine vc_X11_rowAt_13 ?_
    rw [e14, z4]
    refine ⟨rr (by omega), rr (by omega), fun c => absurd c (by omega), fun _ => ⟨⟨rr (by omega), rr (by omega), by omega⟩, ⟨rr (by omega), rr (by omega), by omega⟩, ⟨rr (by omega), rr (by omega), by omega⟩, ?_⟩⟩
    have inn := up_ind (P := fun x => V_X11_rowAt R 44 [(0, kR 201), (2, kI (Int.tmod (prT n r k).2 (SV 0 (n - 1 - k)))), (3, kI (SV 0 (n - 1 - k))), (4, kI (prU n r k)), (5, kI k), (6, kI (Int.tdiv (prT n r k).2 (SV 0 (n - 1 - k)) - cntB (prT n r k).1 x)), (7, kI x)] m) (lo := 0) (hi := ordV n r k) ?_ ?_
    · have := inn 0 (by omega) p1.1
      have e0 : cntB (prT n r k).1 0 = 0 := rfl
      rw [e0, Int.sub_zero] at this
      exact this
    · intro x x0 x1 ihx
      have eb := z5 x x0 (by omega)
      have cs := cntB_s (s := (prT n r k).1) x0
      have cb := cntB_bd (s := (prT n r k).1) x0
      refine vc_X11_rowAt_44 ?_
      rw [eb]
      by_cases hb : hasB (prT n r k).1 x = true
      · have cm := cntB_mono' x0 x1 hb
        rw [if_pos hb]
        rw [if_pos hb] at cs
        rw [cs] at ihx
        have est : Int.tdiv (prT n r k).2 (SV 0 (n - 1 - k)) - (cntB (prT n r k).1 x + 1) = Int.tdiv (prT n r k).2 (SV 0 (n - 1 - k)) - cntB (prT n r k).1 x + -1 := by omega
        rw [est] at ihx
        exact ⟨rr (by omega), fun c => absurd c (by omega), fun _ => ⟨rr (by omega), fun c => absurd c (by omega), fun _ => ⟨rr (by omega), fun c => absurd rfl c, fun _ => ihx⟩⟩⟩
      · rw [if_neg hb]
        rw [if_neg hb, Int.add_zero] at cs
        rw [cs] at ihx
        exact ⟨rr (by omega), fun _ => ⟨rr (by omega), fun _ => ihx, fun c => absurd (show ¬ (1 : Int) = 0 by omega) c⟩, fun c => absurd rfl c⟩
    · have eb := z5 (ordV n r k) p1.1 (by omega)
      rw [if_pos z1] at eb
      have nx := ih' (updm m 210 k (ordV n r k)) (fun z hz => by rw [ru_ne hz, hf z hz]) (fun j j0 j1 => by
        rw [ru_eq]
        by_cases e : j = k
        · rw [e, r1_eq]
        · rw [r1_ne e]; exact hs j j0 (by omega))
      have e2 : n - (k + 1) = n - 1 - k := by omega
      rw [e2, ← z3] at nx
      refine vc_X11_rowAt_44 ?_
      rw [eb, z2]
      exact ⟨rr (by omega), fun c => absurd c (by omega), fun _ => ⟨rr (by omega), fun _ => ⟨by omega, vc_X11_rowAt_88 nx⟩, fun c => absurd (by omega) c⟩⟩
  · intro m hf hs
    have e14 : m 201 14 = n := by rw [hf 201 (by omega), hne]
    refine vc_X11_rowAt_13 ?_
    rw [e14]
    exact ⟨rr (by omega), rr (by omega), fun _ => hR m ⟨hs, hf⟩, fun c => absurd (Int.le_refl _) c⟩
theorem ct_X11_rowAt : Ct mX11_rowAt 0 0 0 0 (nrmS S_X11_rowAt) := by
  refine ct_vm (own := RX11) (by decide +kernel) rfl ?_ ?_
  · intro as μ Q hS
    unfold S_X11_rowAt at hS
    split at hS
    · exact Nat.le_of_ble_eq_true rfl
    · exact hS.elim
  · intro as μ R hS
    unfold S_X11_rowAt at hS
    split at hS
    · exact body_X11_rowAt hS.1 hS.2
    · exact hS.elim
def P_X11_minutes (o : Int) (μ : Mem) : Prop := o = 201 ∧ ∃ s, GPm μ s
def Q_X11_minutes (_ : Int) (μ μ' : Mem) : Prop := (∀ s : Int, GPm μ s → μ' 201 19 = SV 0 (popc s) ∧ FoundA (Fk μ') (Wm μ) (mthV s) (popc s)) ∧ (∀ f : Int, f ≠ 19 → μ' 201 f = μ 201 f) ∧ ∀ z : Int, z ≠ 201 → z ≠ 209 → z ≠ 210 → μ' z = μ z
def S_X11_minutes : S0t := fun as μ Q => match as with
  | [(2, x0)] => P_X11_minutes x0 μ ∧ ∀ (μ' : Mem) , Q_X11_minutes x0 μ μ'  → Q μ' none
  | _ => False
theorem mono_X11_minutes : Mono S_X11_minutes := by
  intro as μ Q Q' h hS
  unfold S_X11_minutes at hS ⊢
  split at hS
  · exact ⟨hS.1, fun μ' q => h _ _ (hS.2 _ q)⟩
  · exact hS.elim
def iX11_minutes : Inf := (kX11_minutes, fTX11, pTX11, cTX11, lTX11, sTX11, [(274, 1, 1, 0, S_X11_rowsOf), (277, 0, 1, 11, S_X11_rowAt), (247, 0, 2, 11, S_X11_between)])
theorem ok_X11_minutes : infOK iX11_minutes mX11_minutes RX11 1 27 := ⟨kkX11_minutes, fTX11_ok, pTX11_ok _, cTX11_ok, lTX11_ok, sTX11_ok, c_cons ⟨mX11_rowsOf, 0, 0, ct_X11_rowsOf, mmX11_rowsOf, stX11_rowsOf, lkX11_274, ⟨by decide, by decide⟩, mono_X11_rowsOf⟩ (c_cons ⟨mX11_rowAt, 0, 0, ct_X11_rowAt, mmX11_rowAt, vvX11_rowAt, lkX11_277, ⟨by decide, by decide⟩, ⟨_, _, rfl⟩, by decide, mono_X11_rowAt⟩ (c_cons ⟨mX11_between, 0, 0, ct_X11_between, mmX11_between, vvX11_between, lkX11_247, ⟨by decide, by decide⟩, ⟨_, _, rfl⟩, by decide, mono_X11_between⟩ (c_nil)))⟩
theorem mt_X11_minutes : mtOK [] RX11 1 27 := mt_nil
abbrev V_X11_minutes (R : Mem → Option AV → Prop) (pc : Nat) (lc : List (Nat × AV)) (μ : Mem) : Prop := VM mX11_minutes RX11 1 27 R pc lc [] μ
set_option maxRecDepth 20000 in
theorem vc_X11_minutes_0 {R : Mem → Option AV → Prop} {μ : Mem} (H : P_X11_rowsOf (μ 201 14) μ ∧ V_X11_minutes R 11 [(0, kR 201)] (updm μ 201 19 (F_X11_rowsOf (μ 201 14) μ))) : V_X11_minutes R 0 [(0, kR 201)] μ := by
  refine vm_step2 mt_X11_minutes ok_X11_minutes [(11, [0]), (13, [0, 1]), (26, [0, 1]), (34, [0, 1, 2, 3, 4]), (78, [0, 1, 2, 3, 4])] 1000 ?_
  show isC 201 11 ∧ P_X11_rowsOf (μ 201 14) μ ∧ isC 201 11 ∧ 0 = 0 ∧ True ∧ V_X11_minutes R 11 [(0, kR 201)] (updm μ 201 19 (F_X11_rowsOf (μ 201 14) μ))
  exact ⟨c_201, ⟨H.1, ⟨c_201, rfl, trivial, H.2⟩⟩⟩
set_option maxRecDepth 20000 in
theorem vc_X11_minutes_11 {R : Mem → Option AV → Prop} {μ : Mem} (H : V_X11_minutes R 13 [(0, kR 201), (1, kI 0)] μ) : V_X11_minutes R 11 [(0, kR 201)] μ := by
  refine vm_step2 mt_X11_minutes ok_X11_minutes [(11, [0]), (13, [0, 1]), (26, [0, 1]), (34, [0, 1, 2, 3, 4]), (78, [0, 1, 2, 3, 4])] 1000 ?_
  show V_X11_minutes R 13 [(0, kR 201), (1, kI 0)] μ
  exact H
set_option maxRecDepth 20000 in
theorem vc_X11_minutes_13 {R : Mem → Option AV → Prop} {r : Int} {μ : Mem} (H : r32 r ∧ r32 (μ 201 19) ∧ (((μ 201 19) ≤ r) → R μ none) ∧ (¬ ((μ 201 19) ≤ r) → P_X11_rowAt 201 r μ ∧ (∀ (μ1 : Mem), Q_X11_rowAt 201 r μ μ1 → V_X11_minutes R 26 [(0, kR 201), (1, kI r)] μ1))) : V_X11_minutes R 13 [(0, kR 201), (1, kI r)] μ := by
  refine vm_step2 mt_X11_minutes ok_X11_minutes [(11, [0]), (13, [0, 1]), (26, [0, 1]), (34, [0, 1, 2, 3, 4]), (78, [0, 1, 2, 3, 4])] 1000 ?_
  show isC 201 11 ∧ (r32 r ∧ r32 (μ 201 19)) ∧ (((μ 201 19) ≤ r) → R μ none) ∧ (¬ ((μ 201 19) ≤ r) → isC 201 11 ∧ P_X11_rowAt 201 r μ ∧ (∀ (μ1 : Mem), Q_X11_rowAt 201 r μ μ1 → V_X11_minutes R 26 [(0, kR 201), (1, kI r)] μ1))
  exact ⟨c_201, ⟨⟨H.1, H.2.1⟩, fun hc4 => (H.2.2.1 hc4), fun hc4 => ⟨c_201, (H.2.2.2 hc4).1, fun μ1 hq3 => ((H.2.2.2 hc4).2 μ1 hq3)⟩⟩⟩
set_option maxRecDepth 20000 in
theorem vc_X11_minutes_26 {R : Mem → Option AV → Prop} {r : Int} {μ : Mem} (H : V_X11_minutes R 34 [(0, kR 201), (1, kI r), (2, kI 7), (3, kI 0), (4, kI 0)] μ) : V_X11_minutes R 26 [(0, kR 201), (1, kI r)] μ := by
  refine vm_step2 mt_X11_minutes ok_X11_minutes [(11, [0]), (13, [0, 1]), (26, [0, 1]), (34, [0, 1, 2, 3, 4]), (78, [0, 1, 2, 3, 4])] 1000 ?_
  show V_X11_minutes R 34 [(0, kR 201), (1, kI r), (2, kI 7), (3, kI 0), (4, kI 0)] μ
  exact H
set_option maxRecDepth 20000 in
theorem vc_X11_minutes_34 {R : Mem → Option AV → Prop} {r fm sum k : Int} {μ : Mem} (H : r32 k ∧ r32 (μ 201 14) ∧ (((μ 201 14) ≤ k) → V_X11_minutes R 13 [(0, kR 201), (1, kI (r + 1))] μ) ∧ (¬ ((μ 201 14) ≤ k) → (0 ≤ k ∧ k < 4) ∧ P_X11_between 201 fm (μ 210 k) μ ∧ (0 ≤ k ∧ k < 4) ∧ (0 ≤ ((24 * (μ 210 k)) + r) ∧ ((24 * (μ 210 k)) + r) < 96) ∧ V_X11_minutes R 78 [(0, kR 201), (1, kI r), (2, kI (μ 210 k)), (3, kI (sum + (F_X11_between 201 fm (μ 210 k) μ))), (4, kI k)] (updm μ 209 ((24 * (μ 210 k)) + r) (sum + (F_X11_between 201 fm (μ 210 k) μ))))) : V_X11_minutes R 34 [(0, kR 201), (1, kI r), (2, kI fm), (3, kI sum), (4, kI k)] μ := by
  refine vm_step2 mt_X11_minutes ok_X11_minutes [(11, [0]), (13, [0, 1]), (26, [0, 1]), (34, [0, 1, 2, 3, 4]), (78, [0, 1, 2, 3, 4])] 1000 ?_
  show isC 201 11 ∧ (r32 k ∧ r32 (μ 201 14)) ∧ (((μ 201 14) ≤ k) → V_X11_minutes R 13 [(0, kR 201), (1, kI (r + 1))] μ) ∧ (¬ ((μ 201 14) ≤ k) → isC 201 11 ∧ inA 210 0 k ∧ isC 201 11 ∧ P_X11_between 201 fm (μ 210 k) μ ∧ isC 201 11 ∧ inA 210 0 k ∧ isC 201 11 ∧ inA 209 0 ((24 * (μ 210 k)) + r) ∧ V_X11_minutes R 78 [(0, kR 201), (1, kI r), (2, kI (μ 210 k)), (3, kI (sum + (F_X11_between 201 fm (μ 210 k) μ))), (4, kI k)] (updm μ 209 ((24 * (μ 210 k)) + r) (sum + (F_X11_between 201 fm (μ 210 k) μ))))
  exact ⟨c_201, ⟨⟨H.1, H.2.1⟩, fun hc5 => (H.2.2.1 hc5), fun hc5 => ⟨c_201, ⟨isArr.in a_210 (H.2.2.2 hc5).1.1 (H.2.2.2 hc5).1.2, ⟨c_201, (H.2.2.2 hc5).2.1, ⟨c_201, ⟨isArr.in a_210 (H.2.2.2 hc5).2.2.1.1 (H.2.2.2 hc5).2.2.1.2, ⟨c_201, ⟨isArr.in a_209 (H.2.2.2 hc5).2.2.2.1.1 (H.2.2.2 hc5).2.2.2.1.2, (H.2.2.2 hc5).2.2.2.2⟩⟩⟩⟩⟩⟩⟩⟩⟩
set_option maxRecDepth 20000 in
theorem vc_X11_minutes_78 {R : Mem → Option AV → Prop} {r fm sum k : Int} {μ : Mem} (H : V_X11_minutes R 34 [(0, kR 201), (1, kI r), (2, kI fm), (3, kI sum), (4, kI (k + 1))] μ) : V_X11_minutes R 78 [(0, kR 201), (1, kI r), (2, kI fm), (3, kI sum), (4, kI k)] μ := by
  refine vm_step2 mt_X11_minutes ok_X11_minutes [(11, [0]), (13, [0, 1]), (26, [0, 1]), (34, [0, 1, 2, 3, 4]), (78, [0, 1, 2, 3, 4])] 1000 ?_
  show V_X11_minutes R 34 [(0, kR 201), (1, kI r), (2, kI fm), (3, kI sum), (4, kI (k + 1))] μ
  exact H
theorem FoundA_cel {F W : Int → Int → Int} {cel cel' : Int → Int} {n : Int} (n0 : 0 ≤ n) (n4 : n ≤ 4) (h : ∀ k, 0 ≤ k → k < n → cel k = cel' k) (hF : FoundA F W cel n) : FoundA F W cel' n := fun r k r0 r1 k0 k1 => by
  rw [hF r k r0 r1 k0 k1]
  exact timG_congr n0 n4 r0 r1 (by omega) h
theorem body_X11_minutes {o : Int} {μ : Mem} {R : Mem → Option AV → Prop} (h : P_X11_minutes o μ) (hR : ∀ μ' : Mem, Q_X11_minutes o μ μ' → R μ' none) : V_X11_minutes R 0 [(0, kR o)] μ := by
  obtain ⟨rfl, s, hs, hn, ⟨h14, h205⟩, hg⟩ := h
  obtain ⟨n, hne⟩ : ∃ n : Int, n = popc s := ⟨_, rfl⟩
  rw [← hne] at hn h14 h205
  have sv := sv0_bd (n := n) (by omega) hn.2
  have hc : ∀ k : Int, 0 ≤ k → k < n → (0 ≤ mthV s k ∧ mthV s k < 8) := fun k k0 k1 => (mth_in k0 (by omega)).1
  obtain ⟨F, eF⟩ : ∃ F : Mem → Prop, ∀ m, F m = ((∀ f : Int, f ≠ 19 → m 201 f = μ 201 f) ∧ m 201 19 = SV 0 n ∧ ∀ z : Int, z ≠ 201 → z ≠ 209 → z ≠ 210 → m z = μ z) := ⟨_, fun _ => rfl⟩
  have fr : ∀ m : Mem, F m → m 201 14 = n ∧ m 201 19 = SV 0 n ∧ m 205 = μ 205 ∧ m 206 = μ 206 := fun m hf => by
    rw [eF] at hf
    exact ⟨by rw [hf.1 14 (by omega), h14], hf.2.1, hf.2.2 205 (by omega) (by omega) (by omega), hf.2.2 206 (by omega) (by omega) (by omega)⟩
  have main := up_ind (P := fun r => ∀ m : Mem, F m → (∀ r' k : Int, 0 ≤ r' → r' < r → 0 ≤ k → k < n → m 209 (24 * ordV n r' k + r') = timG (Wm μ) (mthV s) n r' (k + 1)) → V_X11_minutes R 13 [(0, kR 201), (1, kI r)] m) (lo := 0) (hi := SV 0 n) ?_ ?_
  · refine vc_X11_minutes_0 ?_
    rw [h14, rows_sv hn.1 hn.2]
    refine ⟨rr (by omega), vc_X11_minutes_11 (main 0 (by omega) (by omega) _ ?_ (fun r' k q1 q2 => absurd q1 (by omega)))⟩
    rw [eF]
    exact ⟨fun f hf => by rw [ru_eq, r1_ne hf], by rw [ru_eq, r1_eq], fun z z0 _ _ => ru_ne z0⟩
  · intro r r0 r1 ih m hf hm
    obtain ⟨e14, e19, e205, e206⟩ := fr m hf
    refine vc_X11_minutes_13 ?_
    rw [e19]
    refine ⟨rr (by omega), rr (by omega), fun c => absurd c (by omega), fun _ => ⟨⟨rfl, by omega, by rw [e14]; exact e19, by rw [e14]; exact ⟨r0, r1⟩⟩, fun m1 q => ?_⟩⟩
    obtain ⟨q1, q2⟩ := q
    rw [e14] at q1
    have f1 : F m1 := by
      rw [eF] at hf ⊢
      exact ⟨fun f h => by rw [q2 201 (by omega), hf.1 f h], by rw [q2 201 (by omega), hf.2.1], fun z z0 z1 z2 => by rw [q2 z z2, hf.2.2 z z0 z1 z2]⟩
    have hm1 : ∀ r' k : Int, 0 ≤ r' → r' < r → 0 ≤ k → k < n → m1 209 (24 * ordV n r' k + r') = timG (Wm μ) (mthV s) n r' (k + 1) := fun r' k a b c d => by rw [q2 209 (by omega)]; exact hm r' k a b c d
    have hp : ∀ k : Int, 0 ≤ k → k < n → (0 ≤ ordV n r k ∧ ordV n r k < n) ∧ ∀ j : Int, 0 ≤ j → j < n → ordV n r j = ordV n r k → j = k := fun k k0 k1 => by
      have := pr_at (by omega) hn.2 r0 r1 k0 k1
      exact ⟨this.1.1, this.2⟩
    have inn := up_ind (P := fun k => ∀ m : Mem, F m → (∀ k : Int, 0 ≤ k → k < n → m 210 k = ordV n r k) → (∀ r' k : Int, 0 ≤ r' → r' < r → 0 ≤ k → k < n → m 209 (24 * ordV n r' k + r') = timG (Wm μ) (mthV s) n r' (k + 1)) → (∀ j : Int, 0 ≤ j → j < k → m 209 (24 * ordV n r j + r) = timG (Wm μ) (mthV s) n r (j + 1)) → V_X11_minutes R 34 [(0, kR 201), (1, kI r), (2, kI (if k = 0 then 7 else ordV n r (k - 1))), (3, kI (timG (Wm μ) (mthV s) n r k)), (4, kI k)] m) (lo := 0) (hi := n) ?_ ?_
    · have := inn 0 (by omega) (by omega) m1 f1 q1 hm1 (fun j j0 j1 => absurd j0 (by omega))
      rw [if_pos rfl] at this
      exact vc_X11_minutes_26 this
    · intro k k0 k1 ihk m hf h210 hm hk
      obtain ⟨e14, e19, e205, e206⟩ := fr m hf
      have hpk := hp k k0 k1
      have hck := hc _ hpk.1.1 hpk.1.2
      obtain ⟨fm, efm⟩ : ∃ fm : Int, fm = if k = 0 then 7 else ordV n r (k - 1) := ⟨_, rfl⟩
      have hfm : (0 ≤ fm ∧ fm ≤ 7) ∧ plM m fm = prevG (mthV s) n r k ∧ (0 ≤ prevG (mthV s) n r k ∧ prevG (mthV s) n r k < 8) := by
        unfold plM prevG
        by_cases z : k = 0
        · rw [if_pos z] at efm
          rw [efm, if_pos rfl, if_pos z]
          omega
        · rw [if_neg z] at efm
          have hp' := hp (k - 1) (by omega) (by omega)
          have hc' := hc _ hp'.1.1 hp'.1.2
          rw [efm, if_neg (by omega), if_neg z, e205, h205 _ hp'.1.1 hp'.1.2]
          omega
      have eW : Wm m = Wm μ := by unfold Wm; rw [e206]
      have eb : F_X11_between 201 fm (ordV n r k) m = Wm μ (prevG (mthV s) n r k) (mthV s (ordV n r k)) := by
        unfold F_X11_between
        rw [hfm.2.1, e205, h205 _ hpk.1.1 hpk.1.2, eW]
      have ts : timG (Wm μ) (mthV s) n r (k + 1) = timG (Wm μ) (mthV s) n r k + Wm μ (prevG (mthV s) n r k) (mthV s (ordV n r k)) := sm_s k0
      rw [if_neg (show ¬ k + 1 = 0 by omega), show k + 1 - 1 = k by omega, ts] at ihk
      refine vc_X11_minutes_34 ?_
      rw [← efm, e14, h210 k k0 k1, eb]
      refine ⟨rr (by omega), rr (by omega), fun c => absurd c (by omega), fun _ => ⟨by omega, ⟨rfl, hfm.1, by rw [hfm.2.1]; exact hfm.2.2, by omega, by rw [e205, h205 _ hpk.1.1 hpk.1.2]; exact hck⟩, by omega, by omega, vc_X11_minutes_78 (ihk _ ?_ ?_ ?_ ?_)⟩⟩
      · rw [eF] at hf ⊢
        exact ⟨fun f h => by rw [ru_ne (by omega), hf.1 f h], by rw [ru_ne (by omega), hf.2.1], fun z z0 z1 z2 => by rw [ru_ne z1, hf.2.2 z z0 z1 z2]⟩
      · exact fun j j0 j1 => by rw [ru_ne (by omega)]; exact h210 j j0 j1
      · intro r' j a b c d
        have p' := (pr_at (show 0 ≤ n by omega) hn.2 a (show r' < SV 0 n by omega) c d).1.1
        rw [ru_eq, r1_ne (by omega)]
        exact hm r' j a b c d
      · intro j j0 j1
        rw [ru_eq]
        by_cases e : j = k
        · rw [e, r1_eq, ts]
        · rw [r1_ne (fun q => e (hpk.2 j j0 (by omega) (by omega)))]
          exact hk j j0 (by omega)
    · intro m hf h210 hm hk
      obtain ⟨e14, e19, e205, e206⟩ := fr m hf
      refine vc_X11_minutes_34 ?_
      rw [e14]
      refine ⟨rr (by omega), rr (by omega), fun _ => ih m hf (fun r' j a b c d => ?_), fun c => absurd (Int.le_refl _) c⟩
      by_cases e : r' = r
      · rw [e]; exact hk j c d
      · exact hm r' j a (by omega) c d
  · intro m hf hm
    obtain ⟨e14, e19, e205, e206⟩ := fr m hf
    refine vc_X11_minutes_13 ?_
    rw [e19]
    refine ⟨rr (by omega), rr (by omega), fun _ => hR m ?_, fun c => absurd (Int.le_refl _) c⟩
    rw [eF] at hf
    refine ⟨fun s' hs' => ?_, hf.1, hf.2.2⟩
    obtain ⟨_, hn', ⟨h14', h205'⟩, _⟩ := hs'
    have en : popc s' = n := by rw [← h14', h14]
    rw [en] at h205' ⊢
    refine ⟨e19, FoundA_cel (by omega) hn.2 (fun k k0 k1 => by rw [← h205 k k0 k1, h205' k k0 k1]) (cel := mthV s) (fun r k r0 r1 k0 k1 => hm r k r0 r1 k0 k1)⟩
theorem ct_X11_minutes : Ct mX11_minutes 1 27 0 0 (nrmS S_X11_minutes) := by
  refine ct_vm (own := RX11) (by decide +kernel) rfl ?_ ?_
  · intro as μ Q hS
    unfold S_X11_minutes at hS
    split at hS
    · exact Nat.le_of_ble_eq_true rfl
    · exact hS.elim
  · intro as μ R hS
    unfold S_X11_minutes at hS
    split at hS
    · exact body_X11_minutes hS.1 hS.2
    · exact hS.elim
