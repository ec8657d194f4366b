/-! the model: looks -/
theorem st_sum {v : TV} (hp : 0 ≤ v 0 0) : ∀ n : Int, 0 ≤ n → (∀ i : Int, 0 ≤ i → i < n → rowV v i ≠ -1) → sm (stV v n) (v 0 0) = n := by
  refine nat_ind (P := fun n => (∀ i : Int, 0 ≤ i → i < n → rowV v i ≠ -1) → sm (stV v n) (v 0 0) = n) (fun _ => sm_zero hp) (fun n n0 ih hr => ?_)
  have hn := hr n n0 (by omega)
  have e : stV v (n + 1) = upd1 (stV v n) (rowV v n) (stV v n (rowV v n) + 1) := by
    rw [stV_s n0]
    unfold nxtV
    exact if_neg hn
  rcases rowV_ok hp n with h | h
  · exact absurd h hn
  · rw [e, sm_upd (f := stV v n) (x := 1) h.1.1 h.1.2 (fun i _ _ q => r1_ne q) r1_eq, ih (fun i i0 i1 => hr i i0 (by omega))]
theorem row_64 {v : TV} (ok : TVok v) (hr : ∀ i : Int, 0 ≤ i → i < 64 → rowV v i ≠ -1) : rowV v 64 = -1 := by
  have hp := ok.1
  rcases rowV_ok (v := v) (by omega) 64 with h | h
  · exact h
  · exfalso
    have hs := st_sum (v := v) (by omega) 64 (by omega) hr
    have hb := fun a => stV_bd (v := v) (by omega) (n := 64) (by omega) a
    have h1 : sm (fun i => stV v 64 i + (8 - stV v 64 i)) (v 0 0) = sm (stV v 64) (v 0 0) + sm (fun i => 8 - stV v 64 i) (v 0 0) := sm_add (by omega)
    have h2 : sm (fun i => stV v 64 i + (8 - stV v 64 i)) (v 0 0) = v 0 0 * 8 := by
      have := sm_bd (f := fun i => stV v 64 i + (8 - stV v 64 i)) (n := v 0 0) (c := 8) (d := 8) (fun i _ _ => by omega) (by omega)
      omega
    have h3 := sm_pos (f := fun i => 8 - stV v 64 i) (n := v 0 0) (j := rowV v 64) (fun i _ _ => by have := hb i; omega) h.1.1 h.1.2 (by show 0 < 8 - stV v 64 (rowV v 64); omega)
    omega
theorem row_in {v : TV} (ok : TVok v) {i : Int} (i0 : 0 ≤ i) (i1 : i < cntV v) : (0 ≤ rowV v i ∧ rowV v i < v 0 0) ∧ 0 < v 4 (rowV v i) ∧ stV v i (rowV v i) < 8 := by
  have hp := ok.1
  rcases rowV_ok (v := v) (by omega) i with h | h
  · exact absurd h (cntV_row i0 i1)
  · exact h
/-- what the looks leave -/
def LkM (μ : Mem) (v : TV) : Prop := μ 201 34 = cntV v ∧ (∀ i : Int, 0 ≤ i → i < cntV v → μ 220 i = rowV v i) ∧ ∀ i : Int, 0 ≤ i → i ≤ cntV v → μ 221 i = leftV v (stV v i)
theorem left_ok {v : TV} (ok : TVok v) {i : Int} (i0 : 0 ≤ i) : 0 ≤ leftV v (stV v i) ∧ leftV v (stV v i) ≤ 340545503232 := leftV_bd ok (fun a => stV_bd (by have := ok.1; omega) i0 a)
/-- gains by what is left -/
theorem gain_by {v : TV} (ok : TVok v) : ∀ n : Int, 0 ≤ n → n ≤ cntV v → gainV v n = v 2 0 * (leftV v (stV v 0) - leftV v (stV v n)) - sm (fun i => v 6 (rowV v i) * leftV v (stV v i)) n := by
  refine nat_ind (P := fun n => n ≤ cntV v → gainV v n = v 2 0 * (leftV v (stV v 0) - leftV v (stV v n)) - sm (fun i => v 6 (rowV v i) * leftV v (stV v i)) n) (fun _ => ?_) (fun n n0 ih hn => ?_)
  · show (0 : Int) = v 2 0 * (leftV v (stV v 0) - leftV v (stV v 0)) - 0
    rw [Int.sub_self, Int.mul_zero]; rfl
  · rw [gainV_s n0, ih (by omega), sm_s n0, leftV_s ok n0 (cntV_row n0 (by omega))]
    generalize leftV v (stV v 0) = A
    generalize leftV v (stV v n) = B
    generalize findV v (rowV v n) (stV v n (rowV v n)) = C
    have e : v 2 0 * (A - (B - C)) = v 2 0 * (A - B) + v 2 0 * C := by rw [← Int.mul_add]; congr 1; omega
    rw [e]
    omega
def P_X11_power (v n : Int) (_ : Mem) : Prop := r32 v ∧ r32 n
def F_X11_power (v n : Int) (_ : Mem) : Int := v ^ n.toNat
def S_X11_power : S0t := fun as μ Q => match as with
  | [(0, x0), (0, x1)] => P_X11_power x0 x1 μ ∧ Q μ (some (kL (F_X11_power x0 x1 μ)))
  | _ => False
theorem mono_X11_power : Mono S_X11_power := by
  intro as μ Q Q' h hS
  unfold S_X11_power at hS ⊢
  split at hS
  · exact ⟨hS.1, h _ _ hS.2⟩
  · exact hS.elim
def iX11_power : Inf := (kX11_power, fTX11, pTX11, cTX11, lTX11, sTX11, [])
theorem ok_X11_power : infOK iX11_power mX11_power RX11 0 0 := ⟨kkX11_power, fTX11_ok, pTX11_ok _, cTX11_ok, lTX11_ok, sTX11_ok, c_nil⟩
theorem mt_X11_power : mtOK [] RX11 0 0 := mt_nil
abbrev V_X11_power (R : Mem → Option AV → Prop) (pc : Nat) (lc : List (Nat × AV)) (μ : Mem) : Prop := VM mX11_power RX11 0 0 R pc lc [] μ
set_option maxRecDepth 20000 in
theorem vc_X11_power_0 {R : Mem → Option AV → Prop} {v n : Int} {μ : Mem} (H : V_X11_power R 5 [(0, kI v), (1, kI n), (2, kL 1), (4, kI 0)] μ) : V_X11_power R 0 [(0, kI v), (1, kI n)] μ := by
  refine vm_step2 mt_X11_power ok_X11_power [(5, [0, 1, 2, 4])] 1000 ?_
  show V_X11_power R 5 [(0, kI v), (1, kI n), (2, kL 1), (4, kI 0)] μ
  exact H
set_option maxRecDepth 20000 in
theorem vc_X11_power_5 {R : Mem → Option AV → Prop} {v n out k : Int} {μ : Mem} (H : r32 k ∧ r32 n ∧ ((n ≤ k) → R μ (some (kL out))) ∧ (¬ (n ≤ k) → r32 v ∧ V_X11_power R 5 [(0, kI v), (1, kI n), (2, kL (out * v)), (4, kI (k + 1))] μ)) : V_X11_power R 5 [(0, kI v), (1, kI n), (2, kL out), (4, kI k)] μ := by
  refine vm_step2 mt_X11_power ok_X11_power [(5, [0, 1, 2, 4])] 1000 ?_
  show (r32 k ∧ r32 n) ∧ ((n ≤ k) → R μ (some (kL out))) ∧ (¬ (n ≤ k) → r32 v ∧ V_X11_power R 5 [(0, kI v), (1, kI n), (2, kL (out * v)), (4, kI (k + 1))] μ)
  exact ⟨⟨H.1, H.2.1⟩, fun hc1 => (H.2.2.1 hc1), fun hc1 => ⟨(H.2.2.2 hc1).1, (H.2.2.2 hc1).2⟩⟩
theorem body_X11_power {v n : Int} {μ : Mem} {R : Mem → Option AV → Prop} (h : P_X11_power v n μ) (hR : R μ (some (kL (F_X11_power v n μ)))) : V_X11_power R 0 [(0, kI v), (1, kI n)] μ := by
  obtain ⟨hv, hn⟩ := h
  have hn' : -2147483648 ≤ n ∧ n ≤ 2147483647 := hn
  unfold F_X11_power at hR
  have key := up_ind (P := fun k => V_X11_power R 5 [(0, kI v), (1, kI n), (2, kL (v ^ k.toNat)), (4, kI k)] μ) (lo := 0) (hi := max 0 n) ?_ ?_
  · have k0 := key 0 (by omega) (by omega)
    have e : v ^ (0 : Int).toNat = 1 := Int.pow_zero v
    rw [e] at k0
    exact vc_X11_power_0 k0
  · intro k k0 k1 ih
    have e : (k + 1).toNat = k.toNat + 1 := by omega
    rw [e, Int.pow_succ] at ih
    exact vc_X11_power_5 ⟨rr (by omega), hn, fun c => absurd c (by omega), fun _ => ⟨hv, ih⟩⟩
  · have e : (max 0 n).toNat = n.toNat := by omega
    rw [e]
    exact vc_X11_power_5 ⟨rr (by omega), hn, fun _ => hR, fun c => absurd (by omega) c⟩
theorem ct_X11_power : Ct mX11_power 0 0 0 0 (nrmS S_X11_power) := by
  refine ct_vm (own := RX11) (by decide +kernel) rfl ?_ ?_
  · intro as μ Q hS
    unfold S_X11_power at hS
    split at hS
    · exact Nat.le_of_ble_eq_true rfl
    · exact hS.elim
  · intro as μ R hS
    unfold S_X11_power at hS
    split at hS
    · exact body_X11_power hS.1 hS.2
    · exact hS.elim
def P_X11_leftAt (o a : Int) (μ : Mem) : Prop := o = 201 ∧ MB μ ∧ (0 ≤ a ∧ a < 8) ∧ 0 ≤ μ 222 a ∧ μ 222 a ≤ 8
def F_X11_leftAt (_ a : Int) (μ : Mem) : Int := partV (vm μ) a (μ 222 a)
def S_X11_leftAt : S0t := fun as μ Q => match as with
  | [(2, x0), (0, x1)] => P_X11_leftAt x0 x1 μ ∧ Q μ (some (kL (F_X11_leftAt x0 x1 μ)))
  | _ => False
theorem mono_X11_leftAt : Mono S_X11_leftAt := by
  intro as μ Q Q' h hS
  unfold S_X11_leftAt at hS ⊢
  split at hS
  · exact ⟨hS.1, h _ _ hS.2⟩
  · exact hS.elim
def iX11_leftAt : Inf := (kX11_leftAt, fTX11, pTX11, cTX11, lTX11, sTX11, [(209, 0, 1, 11, S_X11_of), (350, 1, 2, 0, S_X11_power)])
theorem ok_X11_leftAt : infOK iX11_leftAt mX11_leftAt RX11 1 24 := ⟨kkX11_leftAt, fTX11_ok, pTX11_ok _, cTX11_ok, lTX11_ok, sTX11_ok, c_cons ⟨mX11_of, 0, 0, ct_X11_of, mmX11_of, vvX11_of, lkX11_209, ⟨by decide, by decide⟩, ⟨_, _, rfl⟩, by decide, mono_X11_of⟩ (c_cons ⟨mX11_power, 0, 0, ct_X11_power, mmX11_power, stX11_power, lkX11_350, ⟨by decide, by decide⟩, mono_X11_power⟩ (c_nil))⟩
theorem mt_X11_leftAt : mtOK [] RX11 1 24 := mt_nil
abbrev V_X11_leftAt (R : Mem → Option AV → Prop) (pc : Nat) (lc : List (Nat × AV)) (μ : Mem) : Prop := VM mX11_leftAt RX11 1 24 R pc lc [] μ
set_option maxRecDepth 20000 in
theorem vc_X11_leftAt_0 {R : Mem → Option AV → Prop} {a : Int} {μ : Mem} (H : P_X11_of 201 (10 + a) μ ∧ r32 (F_X11_of 201 (10 + a) μ) ∧ P_X11_of 201 (20 + a) μ ∧ (0 ≤ a ∧ a < 8) ∧ P_X11_power (12 - (F_X11_of 201 (20 + a) μ)) (μ 222 a) μ ∧ (0 ≤ a ∧ a < 8) ∧ P_X11_power 12 (8 - (μ 222 a)) μ ∧ R μ (some (kL (((F_X11_of 201 (10 + a) μ) * (F_X11_power (12 - (F_X11_of 201 (20 + a) μ)) (μ 222 a) μ)) * (F_X11_power 12 (8 - (μ 222 a)) μ))))) : V_X11_leftAt R 0 [(0, kR 201), (1, kI a)] μ := by
  refine vm_step2 mt_X11_leftAt ok_X11_leftAt [] 1000 ?_
  show isC 201 11 ∧ P_X11_of 201 (10 + a) μ ∧ r32 (F_X11_of 201 (10 + a) μ) ∧ isC 201 11 ∧ P_X11_of 201 (20 + a) μ ∧ isC 201 11 ∧ inA 222 0 a ∧ P_X11_power (12 - (F_X11_of 201 (20 + a) μ)) (μ 222 a) μ ∧ isC 201 11 ∧ inA 222 0 a ∧ P_X11_power 12 (8 - (μ 222 a)) μ ∧ R μ (some (kL (((F_X11_of 201 (10 + a) μ) * (F_X11_power (12 - (F_X11_of 201 (20 + a) μ)) (μ 222 a) μ)) * (F_X11_power 12 (8 - (μ 222 a)) μ))))
  exact ⟨c_201, H.1, ⟨H.2.1, ⟨c_201, H.2.2.1, ⟨c_201, ⟨isArr.in a_222 H.2.2.2.1.1 H.2.2.2.1.2, ⟨H.2.2.2.2.1, ⟨c_201, ⟨isArr.in a_222 H.2.2.2.2.2.1.1 H.2.2.2.2.2.1.2, ⟨H.2.2.2.2.2.2.1, H.2.2.2.2.2.2.2⟩⟩⟩⟩⟩⟩⟩⟩⟩
theorem body_X11_leftAt {o a : Int} {μ : Mem} {R : Mem → Option AV → Prop} (h : P_X11_leftAt o a μ) (hR : R μ (some (kL (F_X11_leftAt o a μ)))) : V_X11_leftAt R 0 [(0, kR o), (1, kI a)] μ := by
  obtain ⟨rfl, hb, ha, ht⟩ := h
  have ok := hb.v
  have hc := ok.2.2.2.1 a ha.1 ha.2
  refine vc_X11_leftAt_0 ?_
  rw [of_4 ha.1 ha.2, of_5 ha.1 ha.2]
  refine ⟨⟨rfl, hb.1, by omega, by omega⟩, rr (by omega), ⟨rfl, hb.1, by omega, by omega⟩, ha, ⟨rr (by omega), rr (by omega)⟩, ha, ⟨rr (by omega), rr (by omega)⟩, l_eq hR ?_⟩
  unfold F_X11_leftAt partV F_X11_power
  rw [Int.mul_assoc]
theorem ct_X11_leftAt : Ct mX11_leftAt 1 24 0 0 (nrmS S_X11_leftAt) := by
  refine ct_vm (own := RX11) (by decide +kernel) rfl ?_ ?_
  · intro as μ Q hS
    unfold S_X11_leftAt at hS
    split at hS
    · exact Nat.le_of_ble_eq_true rfl
    · exact hS.elim
  · intro as μ R hS
    unfold S_X11_leftAt at hS
    split at hS
    · exact body_X11_leftAt hS.1 hS.2
    · exact hS.elim
def P_X11_leftNow (o : Int) (μ : Mem) : Prop := o = 201 ∧ MB μ ∧ ∀ a : Int, 0 ≤ a → a < vm μ 0 0 → 0 ≤ μ 222 a ∧ μ 222 a ≤ 8
def F_X11_leftNow (_ : Int) (μ : Mem) : Int := leftV (vm μ) (μ 222)
def S_X11_leftNow : S0t := fun as μ Q => match as with
  | [(2, x0)] => P_X11_leftNow x0 μ ∧ Q μ (some (kL (F_X11_leftNow x0 μ)))
  | _ => False
theorem mono_X11_leftNow : Mono S_X11_leftNow := by
  intro as μ Q Q' h hS
  unfold S_X11_leftNow at hS ⊢
  split at hS
  · exact ⟨hS.1, h _ _ hS.2⟩
  · exact hS.elim
def iX11_leftNow : Inf := (kX11_leftNow, fTX11, pTX11, cTX11, lTX11, sTX11, [(353, 0, 1, 11, S_X11_leftAt)])
theorem ok_X11_leftNow : infOK iX11_leftNow mX11_leftNow RX11 2 45 := ⟨kkX11_leftNow, fTX11_ok, pTX11_ok _, cTX11_ok, lTX11_ok, sTX11_ok, c_cons ⟨mX11_leftAt, 1, 24, ct_X11_leftAt, mmX11_leftAt, vvX11_leftAt, lkX11_353, ⟨by decide, by decide⟩, ⟨_, _, rfl⟩, by decide, mono_X11_leftAt⟩ (c_nil)⟩
theorem mt_X11_leftNow : mtOK [] RX11 2 45 := mt_nil
abbrev V_X11_leftNow (R : Mem → Option AV → Prop) (pc : Nat) (lc : List (Nat × AV)) (μ : Mem) : Prop := VM mX11_leftNow RX11 2 45 R pc lc [] μ
set_option maxRecDepth 20000 in
theorem vc_X11_leftNow_0 {R : Mem → Option AV → Prop} {μ : Mem} (H : V_X11_leftNow R 4 [(0, kR 201), (1, kL 0), (3, kI 0)] μ) : V_X11_leftNow R 0 [(0, kR 201)] μ := by
  refine vm_step2 mt_X11_leftNow ok_X11_leftNow [(4, [0, 1, 3])] 1000 ?_
  show V_X11_leftNow R 4 [(0, kR 201), (1, kL 0), (3, kI 0)] μ
  exact H
set_option maxRecDepth 20000 in
theorem vc_X11_leftNow_4 {R : Mem → Option AV → Prop} {sum a : Int} {μ : Mem} (H : r32 a ∧ r32 (μ 201 13) ∧ (((μ 201 13) ≤ a) → R μ (some (kL sum))) ∧ (¬ ((μ 201 13) ≤ a) → P_X11_leftAt 201 a μ ∧ V_X11_leftNow R 4 [(0, kR 201), (1, kL (sum + (F_X11_leftAt 201 a μ))), (3, kI (a + 1))] μ)) : V_X11_leftNow R 4 [(0, kR 201), (1, kL sum), (3, kI a)] μ := by
  refine vm_step2 mt_X11_leftNow ok_X11_leftNow [(4, [0, 1, 3])] 1000 ?_
  show isC 201 11 ∧ (r32 a ∧ r32 (μ 201 13)) ∧ (((μ 201 13) ≤ a) → R μ (some (kL sum))) ∧ (¬ ((μ 201 13) ≤ a) → isC 201 11 ∧ P_X11_leftAt 201 a μ ∧ V_X11_leftNow R 4 [(0, kR 201), (1, kL (sum + (F_X11_leftAt 201 a μ))), (3, kI (a + 1))] μ)
  exact ⟨c_201, ⟨⟨H.1, H.2.1⟩, fun hc1 => (H.2.2.1 hc1), fun hc1 => ⟨c_201, (H.2.2.2 hc1).1, (H.2.2.2 hc1).2⟩⟩⟩
theorem body_X11_leftNow {o : Int} {μ : Mem} {R : Mem → Option AV → Prop} (h : P_X11_leftNow o μ) (hR : R μ (some (kL (F_X11_leftNow o μ)))) : V_X11_leftNow R 0 [(0, kR o)] μ := by
  obtain ⟨rfl, hb, ht⟩ := h
  have hp := hb.p
  have hpe := hb.2.1
  have key := up_ind (P := fun a => V_X11_leftNow R 4 [(0, kR 201), (1, kL (sm (fun a => partV (vm μ) a (μ 222 a)) a)), (3, kI a)] μ) (lo := 0) (hi := μ 201 13) ?_ ?_
  · exact vc_X11_leftNow_0 (key 0 (by omega) (by omega))
  · intro a a0 a1 ih
    rw [sm_s a0] at ih
    exact vc_X11_leftNow_4 ⟨rr (by omega), rr (by omega), fun c => absurd c (by omega), fun _ => ⟨⟨rfl, hb, ⟨a0, by omega⟩, ht a a0 (by omega)⟩, ih⟩⟩
  · refine vc_X11_leftNow_4 ⟨rr (by omega), rr (by omega), fun _ => ?_, fun c => absurd (Int.le_refl _) c⟩
    rw [hpe]
    exact hR
theorem ct_X11_leftNow : Ct mX11_leftNow 2 45 0 0 (nrmS S_X11_leftNow) := by
  refine ct_vm (own := RX11) (by decide +kernel) rfl ?_ ?_
  · intro as μ Q hS
    unfold S_X11_leftNow at hS
    split at hS
    · exact Nat.le_of_ble_eq_true rfl
    · exact hS.elim
  · intro as μ R hS
    unfold S_X11_leftNow at hS
    split at hS
    · exact body_X11_leftNow hS.1 hS.2
    · exact hS.elim
def P_X11_gains (o a : Int) (μ : Mem) : Prop := o = 201 ∧ MB μ ∧ (0 ≤ a ∧ a < 8) ∧ 0 ≤ μ 222 a ∧ μ 222 a ≤ 7
def F_X11_gains (_ a : Int) (μ : Mem) : Int := findV (vm μ) a (μ 222 a)
def S_X11_gains : S0t := fun as μ Q => match as with
  | [(2, x0), (0, x1)] => P_X11_gains x0 x1 μ ∧ Q μ (some (kL (F_X11_gains x0 x1 μ)))
  | _ => False
theorem mono_X11_gains : Mono S_X11_gains := by
  intro as μ Q Q' h hS
  unfold S_X11_gains at hS ⊢
  split at hS
  · exact ⟨hS.1, h _ _ hS.2⟩
  · exact hS.elim
def iX11_gains : Inf := (kX11_gains, fTX11, pTX11, cTX11, lTX11, sTX11, [(209, 0, 1, 11, S_X11_of), (350, 1, 2, 0, S_X11_power)])
theorem ok_X11_gains : infOK iX11_gains mX11_gains RX11 1 24 := ⟨kkX11_gains, fTX11_ok, pTX11_ok _, cTX11_ok, lTX11_ok, sTX11_ok, c_cons ⟨mX11_of, 0, 0, ct_X11_of, mmX11_of, vvX11_of, lkX11_209, ⟨by decide, by decide⟩, ⟨_, _, rfl⟩, by decide, mono_X11_of⟩ (c_cons ⟨mX11_power, 0, 0, ct_X11_power, mmX11_power, stX11_power, lkX11_350, ⟨by decide, by decide⟩, mono_X11_power⟩ (c_nil))⟩
theorem mt_X11_gains : mtOK [] RX11 1 24 := mt_nil
abbrev V_X11_gains (R : Mem → Option AV → Prop) (pc : Nat) (lc : List (Nat × AV)) (μ : Mem) : Prop := VM mX11_gains RX11 1 24 R pc lc [] μ
set_option maxRecDepth 20000 in
theorem vc_X11_gains_0 {R : Mem → Option AV → Prop} {a : Int} {μ : Mem} (H : P_X11_of 201 (10 + a) μ ∧ P_X11_of 201 (20 + a) μ ∧ r32 ((F_X11_of 201 (10 + a) μ) * (F_X11_of 201 (20 + a) μ)) ∧ P_X11_of 201 (20 + a) μ ∧ (0 ≤ a ∧ a < 8) ∧ P_X11_power (12 - (F_X11_of 201 (20 + a) μ)) (μ 222 a) μ ∧ (0 ≤ a ∧ a < 8) ∧ P_X11_power 12 (7 - (μ 222 a)) μ ∧ R μ (some (kL ((((F_X11_of 201 (10 + a) μ) * (F_X11_of 201 (20 + a) μ)) * (F_X11_power (12 - (F_X11_of 201 (20 + a) μ)) (μ 222 a) μ)) * (F_X11_power 12 (7 - (μ 222 a)) μ))))) : V_X11_gains R 0 [(0, kR 201), (1, kI a)] μ := by
  refine vm_step2 mt_X11_gains ok_X11_gains [] 1000 ?_
  show isC 201 11 ∧ P_X11_of 201 (10 + a) μ ∧ isC 201 11 ∧ P_X11_of 201 (20 + a) μ ∧ r32 ((F_X11_of 201 (10 + a) μ) * (F_X11_of 201 (20 + a) μ)) ∧ isC 201 11 ∧ P_X11_of 201 (20 + a) μ ∧ isC 201 11 ∧ inA 222 0 a ∧ P_X11_power (12 - (F_X11_of 201 (20 + a) μ)) (μ 222 a) μ ∧ isC 201 11 ∧ inA 222 0 a ∧ P_X11_power 12 (7 - (μ 222 a)) μ ∧ R μ (some (kL ((((F_X11_of 201 (10 + a) μ) * (F_X11_of 201 (20 + a) μ)) * (F_X11_power (12 - (F_X11_of 201 (20 + a) μ)) (μ 222 a) μ)) * (F_X11_power 12 (7 - (μ 222 a)) μ))))
  exact ⟨c_201, H.1, ⟨c_201, H.2.1, ⟨H.2.2.1, ⟨c_201, H.2.2.2.1, ⟨c_201, ⟨isArr.in a_222 H.2.2.2.2.1.1 H.2.2.2.2.1.2, ⟨H.2.2.2.2.2.1, ⟨c_201, ⟨isArr.in a_222 H.2.2.2.2.2.2.1.1 H.2.2.2.2.2.2.1.2, ⟨H.2.2.2.2.2.2.2.1, H.2.2.2.2.2.2.2.2⟩⟩⟩⟩⟩⟩⟩⟩⟩⟩
theorem body_X11_gains {o a : Int} {μ : Mem} {R : Mem → Option AV → Prop} (h : P_X11_gains o a μ) (hR : R μ (some (kL (F_X11_gains o a μ)))) : V_X11_gains R 0 [(0, kR o), (1, kI a)] μ := by
  obtain ⟨rfl, hb, ha, ht⟩ := h
  have ok := hb.v
  have hc := ok.2.2.2.1 a ha.1 ha.2
  have m1 := mul_bd hc.1.1 hc.1.2 (show 0 ≤ vm μ 5 a by omega) hc.2.1.2
  refine vc_X11_gains_0 ?_
  rw [of_4 ha.1 ha.2, of_5 ha.1 ha.2]
  refine ⟨⟨rfl, hb.1, by omega, by omega⟩, ⟨rfl, hb.1, by omega, by omega⟩, rr (by omega), ⟨rfl, hb.1, by omega, by omega⟩, ha, ⟨rr (by omega), rr (by omega)⟩, ha, ⟨rr (by omega), rr (by omega)⟩, l_eq hR ?_⟩
  unfold F_X11_gains findV F_X11_power
  rw [Int.mul_assoc (vm μ 4 a * vm μ 5 a)]
theorem ct_X11_gains : Ct mX11_gains 1 24 0 0 (nrmS S_X11_gains) := by
  refine ct_vm (own := RX11) (by decide +kernel) rfl ?_ ?_
  · intro as μ Q hS
    unfold S_X11_gains at hS
    split at hS
    · exact Nat.le_of_ble_eq_true rfl
    · exact hS.elim
  · intro as μ R hS
    unfold S_X11_gains at hS
    split at hS
    · exact body_X11_gains hS.1 hS.2
    · exact hS.elim
def P_X11_orders (o : Int) (μ : Mem) : Prop := o = 201 ∧ MB μ
def Q_X11_orders (_ : Int) (μ μ' : Mem) : Prop := LkM μ' (vm μ) ∧ FldM μ μ' [34] ∧ ∀ z : Int, z ≠ 201 → z ≠ 220 → z ≠ 221 → z ≠ 222 → μ' z = μ z
def S_X11_orders : S0t := fun as μ Q => match as with
  | [(2, x0)] => P_X11_orders x0 μ ∧ ∀ (μ' : Mem) , Q_X11_orders x0 μ μ'  → Q μ' none
  | _ => False
theorem mono_X11_orders : Mono S_X11_orders := by
  intro as μ Q Q' h hS
  unfold S_X11_orders at hS ⊢
  split at hS
  · exact ⟨hS.1, fun μ' q => h _ _ (hS.2 _ q)⟩
  · exact hS.elim
def iX11_orders : Inf := (kX11_orders, fTX11, pTX11, cTX11, lTX11, sTX11, [(360, 0, 0, 11, S_X11_leftNow), (209, 0, 1, 11, S_X11_of), (364, 0, 1, 11, S_X11_gains)])
theorem ok_X11_orders : infOK iX11_orders mX11_orders RX11 3 68 := ⟨kkX11_orders, fTX11_ok, pTX11_ok _, cTX11_ok, lTX11_ok, sTX11_ok, c_cons ⟨mX11_leftNow, 2, 45, ct_X11_leftNow, mmX11_leftNow, vvX11_leftNow, lkX11_360, ⟨by decide, by decide⟩, ⟨_, _, rfl⟩, by decide, mono_X11_leftNow⟩ (c_cons ⟨mX11_of, 0, 0, ct_X11_of, mmX11_of, vvX11_of, lkX11_209, ⟨by decide, by decide⟩, ⟨_, _, rfl⟩, by decide, mono_X11_of⟩ (c_cons ⟨mX11_gains, 1, 24, ct_X11_gains, mmX11_gains, vvX11_gains, lkX11_364, ⟨by decide, by decide⟩, ⟨_, _, rfl⟩, by decide, mono_X11_gains⟩ (c_nil)))⟩
theorem mt_X11_orders : mtOK [] RX11 3 68 := mt_nil
abbrev V_X11_orders (R : Mem → Option AV → Prop) (pc : Nat) (lc : List (Nat × AV)) (μ : Mem) : Prop := VM mX11_orders RX11 3 68 R pc lc [] μ
set_option maxRecDepth 20000 in
theorem vc_X11_orders_0 {R : Mem → Option AV → Prop} {μ : Mem} (H : V_X11_orders R 5 [(0, kR 201)] (updm μ 201 34 0)) : V_X11_orders R 0 [(0, kR 201)] μ := by
  refine vm_step2 mt_X11_orders ok_X11_orders [(5, [0]), (7, [0, 1]), (20, [0, 1]), (36, [0]), (38, [0, 1]), (46, [0, 2, 3]), (152, [0, 1, 2]), (162, [0, 1]), (172, [0, 1]), (185, [0, 1])] 1000 ?_
  show isC 201 11 ∧ 0 = 0 ∧ True ∧ V_X11_orders R 5 [(0, kR 201)] (updm μ 201 34 0)
  exact ⟨c_201, rfl, trivial, H⟩
set_option maxRecDepth 20000 in
theorem vc_X11_orders_5 {R : Mem → Option AV → Prop} {μ : Mem} (H : V_X11_orders R 7 [(0, kR 201), (1, kI 0)] μ) : V_X11_orders R 5 [(0, kR 201)] μ := by
  refine vm_step2 mt_X11_orders ok_X11_orders [(5, [0]), (7, [0, 1]), (20, [0, 1]), (36, [0]), (38, [0, 1]), (46, [0, 2, 3]), (152, [0, 1, 2]), (162, [0, 1]), (172, [0, 1]), (185, [0, 1])] 1000 ?_
  show V_X11_orders R 7 [(0, kR 201), (1, kI 0)] μ
  exact H
set_option maxRecDepth 20000 in
theorem vc_X11_orders_7 {R : Mem → Option AV → Prop} {a : Int} {μ : Mem} (H : r32 a ∧ (((8 : Int) ≤ a) → P_X11_leftNow 201 μ ∧ V_X11_orders R 36 [(0, kR 201)] (updm μ 221 0 (F_X11_leftNow 201 μ))) ∧ (¬ ((8 : Int) ≤ a) → (0 ≤ a ∧ a < 8) ∧ V_X11_orders R 20 [(0, kR 201), (1, kI a)] (updm μ 222 a 0))) : V_X11_orders R 7 [(0, kR 201), (1, kI a)] μ := by
  refine vm_step2 mt_X11_orders ok_X11_orders [(5, [0]), (7, [0, 1]), (20, [0, 1]), (36, [0]), (38, [0, 1]), (46, [0, 2, 3]), (152, [0, 1, 2]), (162, [0, 1]), (172, [0, 1]), (185, [0, 1])] 1000 ?_
  show (r32 a ∧ r32 (8 : Int)) ∧ (((8 : Int) ≤ a) → isC 201 11 ∧ isC 201 11 ∧ P_X11_leftNow 201 μ ∧ inA 221 1 (0 : Int) ∧ V_X11_orders R 36 [(0, kR 201)] (updm μ 221 0 (F_X11_leftNow 201 μ))) ∧ (¬ ((8 : Int) ≤ a) → isC 201 11 ∧ inA 222 0 a ∧ V_X11_orders R 20 [(0, kR 201), (1, kI a)] (updm μ 222 a 0))
  exact ⟨⟨H.1, by unfold r32; omega⟩, fun hc1 => ⟨c_201, ⟨c_201, (H.2.1 hc1).1, ⟨isArr.in a_221 (by omega) (by omega), (H.2.1 hc1).2⟩⟩⟩, fun hc1 => ⟨c_201, ⟨isArr.in a_222 (H.2.2 hc1).1.1 (H.2.2 hc1).1.2, (H.2.2 hc1).2⟩⟩⟩
set_option maxRecDepth 20000 in
theorem vc_X11_orders_20 {R : Mem → Option AV → Prop} {a : Int} {μ : Mem} (H : V_X11_orders R 7 [(0, kR 201), (1, kI (a + 1))] μ) : V_X11_orders R 20 [(0, kR 201), (1, kI a)] μ := by
  refine vm_step2 mt_X11_orders ok_X11_orders [(5, [0]), (7, [0, 1]), (20, [0, 1]), (36, [0]), (38, [0, 1]), (46, [0, 2, 3]), (152, [0, 1, 2]), (162, [0, 1]), (172, [0, 1]), (185, [0, 1])] 1000 ?_
  show V_X11_orders R 7 [(0, kR 201), (1, kI (a + 1))] μ
  exact H
set_option maxRecDepth 20000 in
theorem vc_X11_orders_36 {R : Mem → Option AV → Prop} {μ : Mem} (H : V_X11_orders R 38 [(0, kR 201), (1, kI 1)] μ) : V_X11_orders R 36 [(0, kR 201)] μ := by
  refine vm_step2 mt_X11_orders ok_X11_orders [(5, [0]), (7, [0, 1]), (20, [0, 1]), (36, [0]), (38, [0, 1]), (46, [0, 2, 3]), (152, [0, 1, 2]), (162, [0, 1]), (172, [0, 1]), (185, [0, 1])] 1000 ?_
  show V_X11_orders R 38 [(0, kR 201), (1, kI 1)] μ
  exact H
set_option maxRecDepth 20000 in
theorem vc_X11_orders_38 {R : Mem → Option AV → Prop} {a : Int} {μ : Mem} (H : r32 a ∧ ((a = 0) → R μ none) ∧ (¬ (a = 0) → V_X11_orders R 46 [(0, kR 201), (2, kI (-1)), (3, kI 0)] μ)) : V_X11_orders R 38 [(0, kR 201), (1, kI a)] μ := by
  refine vm_step2 mt_X11_orders ok_X11_orders [(5, [0]), (7, [0, 1]), (20, [0, 1]), (36, [0]), (38, [0, 1]), (46, [0, 2, 3]), (152, [0, 1, 2]), (162, [0, 1]), (172, [0, 1]), (185, [0, 1])] 1000 ?_
  show r32 a ∧ ((a = 0) → R μ none) ∧ (¬ (a = 0) → V_X11_orders R 46 [(0, kR 201), (2, kI (-1)), (3, kI 0)] μ)
  exact ⟨H.1, fun hc2 => (H.2.1 hc2), fun hc2 => (H.2.2 hc2)⟩
set_option maxRecDepth 20000 in
theorem vc_X11_orders_46 {R : Mem → Option AV → Prop} {best c : Int} {μ : Mem} (H : r32 c ∧ r32 (μ 201 13) ∧ (((μ 201 13) ≤ c) → r32 best ∧ ((best < 0) → V_X11_orders R 38 [(0, kR 201), (1, kI 0)] μ) ∧ (¬ (best < 0) → (0 ≤ (μ 201 34) ∧ (μ 201 34) < 64) ∧ V_X11_orders R 152 [(0, kR 201), (1, kI 1), (2, kI best)] (updm μ 220 (μ 201 34) best))) ∧ (¬ ((μ 201 13) ≤ c) → P_X11_of 201 (10 + c) μ ∧ r32 (F_X11_of 201 (10 + c) μ) ∧ (((F_X11_of 201 (10 + c) μ) = 0) → V_X11_orders R 46 [(0, kR 201), (2, kI best), (3, kI (c + 1))] μ) ∧ (¬ ((F_X11_of 201 (10 + c) μ) = 0) → (0 ≤ c ∧ c < 8) ∧ r32 (μ 222 c) ∧ ((¬ (μ 222 c) = (8 : Int)) → r32 best ∧ ((best < 0) → V_X11_orders R 46 [(0, kR 201), (2, kI c), (3, kI (c + 1))] μ) ∧ (¬ (best < 0) → P_X11_gains 201 c μ ∧ P_X11_of 201 (30 + best) μ ∧ r32 (F_X11_of 201 (30 + best) μ) ∧ P_X11_gains 201 best μ ∧ P_X11_of 201 (30 + c) μ ∧ r32 (F_X11_of 201 (30 + c) μ) ∧ r64 ((F_X11_gains 201 c μ) * (F_X11_of 201 (30 + best) μ)) ∧ r64 ((F_X11_gains 201 best μ) * (F_X11_of 201 (30 + c) μ)) ∧ ((((F_X11_gains 201 c μ) * (F_X11_of 201 (30 + best) μ)) ≤ ((F_X11_gains 201 best μ) * (F_X11_of 201 (30 + c) μ))) → V_X11_orders R 46 [(0, kR 201), (2, kI best), (3, kI (c + 1))] μ) ∧ (¬ (((F_X11_gains 201 c μ) * (F_X11_of 201 (30 + best) μ)) ≤ ((F_X11_gains 201 best μ) * (F_X11_of 201 (30 + c) μ))) → V_X11_orders R 46 [(0, kR 201), (2, kI c), (3, kI (c + 1))] μ))) ∧ (¬ (¬ (μ 222 c) = (8 : Int)) → V_X11_orders R 46 [(0, kR 201), (2, kI best), (3, kI (c + 1))] μ)))) : V_X11_orders R 46 [(0, kR 201), (2, kI best), (3, kI c)] μ := by
  refine vm_step2 mt_X11_orders ok_X11_orders [(5, [0]), (7, [0, 1]), (20, [0, 1]), (36, [0]), (38, [0, 1]), (46, [0, 2, 3]), (152, [0, 1, 2]), (162, [0, 1]), (172, [0, 1]), (185, [0, 1])] 1000 ?_
  show isC 201 11 ∧ (r32 c ∧ r32 (μ 201 13)) ∧ (((μ 201 13) ≤ c) → r32 best ∧ ((best < 0) → r32 (0 : Int) ∧ ((¬ (0 : Int) = 0) → isC 201 11 ∧ isC 201 11 ∧ inA 220 0 (μ 201 34) ∧ V_X11_orders R 152 [(0, kR 201), (1, kI 0), (2, kI best)] (updm μ 220 (μ 201 34) best)) ∧ (¬ (¬ (0 : Int) = 0) → V_X11_orders R 38 [(0, kR 201), (1, kI 0)] μ)) ∧ (¬ (best < 0) → r32 (1 : Int) ∧ ((¬ (1 : Int) = 0) → isC 201 11 ∧ isC 201 11 ∧ inA 220 0 (μ 201 34) ∧ V_X11_orders R 152 [(0, kR 201), (1, kI 1), (2, kI best)] (updm μ 220 (μ 201 34) best)) ∧ (¬ (¬ (1 : Int) = 0) → V_X11_orders R 38 [(0, kR 201), (1, kI 1)] μ))) ∧ (¬ ((μ 201 13) ≤ c) → isC 201 11 ∧ P_X11_of 201 (10 + c) μ ∧ r32 (F_X11_of 201 (10 + c) μ) ∧ (((F_X11_of 201 (10 + c) μ) = 0) → V_X11_orders R 46 [(0, kR 201), (2, kI best), (3, kI (c + 1))] μ) ∧ (¬ ((F_X11_of 201 (10 + c) μ) = 0) → isC 201 11 ∧ inA 222 0 c ∧ (r32 (μ 222 c) ∧ r32 (8 : Int)) ∧ ((¬ (μ 222 c) = (8 : Int)) → r32 best ∧ ((best < 0) → V_X11_orders R 46 [(0, kR 201), (2, kI c), (3, kI (c + 1))] μ) ∧ (¬ (best < 0) → isC 201 11 ∧ P_X11_gains 201 c μ ∧ isC 201 11 ∧ P_X11_of 201 (30 + best) μ ∧ r32 (F_X11_of 201 (30 + best) μ) ∧ isC 201 11 ∧ P_X11_gains 201 best μ ∧ isC 201 11 ∧ P_X11_of 201 (30 + c) μ ∧ r32 (F_X11_of 201 (30 + c) μ) ∧ (r64 ((F_X11_gains 201 c μ) * (F_X11_of 201 (30 + best) μ)) ∧ r64 ((F_X11_gains 201 best μ) * (F_X11_of 201 (30 + c) μ))) ∧ r32 (lcm3 ((F_X11_gains 201 c μ) * (F_X11_of 201 (30 + best) μ)) ((F_X11_gains 201 best μ) * (F_X11_of 201 (30 + c) μ))) ∧ ((lcm3 ((F_X11_gains 201 c μ) * (F_X11_of 201 (30 + best) μ)) ((F_X11_gains 201 best μ) * (F_X11_of 201 (30 + c) μ)) ≤ 0) → V_X11_orders R 46 [(0, kR 201), (2, kI best), (3, kI (c + 1))] μ) ∧ (¬ (lcm3 ((F_X11_gains 201 c μ) * (F_X11_of 201 (30 + best) μ)) ((F_X11_gains 201 best μ) * (F_X11_of 201 (30 + c) μ)) ≤ 0) → V_X11_orders R 46 [(0, kR 201), (2, kI c), (3, kI (c + 1))] μ))) ∧ (¬ (¬ (μ 222 c) = (8 : Int)) → V_X11_orders R 46 [(0, kR 201), (2, kI best), (3, kI (c + 1))] μ)))
  exact ⟨c_201, ⟨⟨H.1, H.2.1⟩, fun hc10 => ⟨(H.2.2.1 hc10).1, fun hc5 => ⟨by unfold r32; omega, fun q => absurd q (by omega), fun _ => ((H.2.2.1 hc10).2.1 hc5)⟩, fun hc5 => ⟨by unfold r32; omega, fun _ => ⟨c_201, ⟨c_201, ⟨isArr.in a_220 ((H.2.2.1 hc10).2.2 hc5).1.1 ((H.2.2.1 hc10).2.2 hc5).1.2, ((H.2.2.1 hc10).2.2 hc5).2⟩⟩⟩, fun q => absurd (by omega) q⟩⟩, fun hc10 => ⟨c_201, (H.2.2.2 hc10).1, ⟨(H.2.2.2 hc10).2.1, fun hc9 => ((H.2.2.2 hc10).2.2.1 hc9), fun hc9 => ⟨c_201, ⟨isArr.in a_222 ((H.2.2.2 hc10).2.2.2 hc9).1.1 ((H.2.2.2 hc10).2.2.2 hc9).1.2, ⟨⟨((H.2.2.2 hc10).2.2.2 hc9).2.1, by unfold r32; omega⟩, fun hc8 => ⟨(((H.2.2.2 hc10).2.2.2 hc9).2.2.1 hc8).1, fun hc7 => ((((H.2.2.2 hc10).2.2.2 hc9).2.2.1 hc8).2.1 hc7), fun hc7 => ⟨c_201, ((((H.2.2.2 hc10).2.2.2 hc9).2.2.1 hc8).2.2 hc7).1, ⟨c_201, ((((H.2.2.2 hc10).2.2.2 hc9).2.2.1 hc8).2.2 hc7).2.1, ⟨((((H.2.2.2 hc10).2.2.2 hc9).2.2.1 hc8).2.2 hc7).2.2.1, ⟨c_201, ((((H.2.2.2 hc10).2.2.2 hc9).2.2.1 hc8).2.2 hc7).2.2.2.1, ⟨c_201, ((((H.2.2.2 hc10).2.2.2 hc9).2.2.1 hc8).2.2 hc7).2.2.2.2.1, ⟨((((H.2.2.2 hc10).2.2.2 hc9).2.2.1 hc8).2.2 hc7).2.2.2.2.2.1, ⟨⟨((((H.2.2.2 hc10).2.2.2 hc9).2.2.1 hc8).2.2 hc7).2.2.2.2.2.2.1, ((((H.2.2.2 hc10).2.2.2 hc9).2.2.1 hc8).2.2 hc7).2.2.2.2.2.2.2.1⟩, lcm3_r _ _, fun hc6 => (((((H.2.2.2 hc10).2.2.2 hc9).2.2.1 hc8).2.2 hc7).2.2.2.2.2.2.2.2.1 (lcm_le.mp hc6)), fun hc6 => (((((H.2.2.2 hc10).2.2.2 hc9).2.2.1 hc8).2.2 hc7).2.2.2.2.2.2.2.2.2 (fun q => hc6 (lcm_le.mpr q)))⟩⟩⟩⟩⟩⟩⟩⟩, fun hc8 => (((H.2.2.2 hc10).2.2.2 hc9).2.2.2 hc8)⟩⟩⟩⟩⟩⟩⟩
set_option maxRecDepth 20000 in
theorem vc_X11_orders_152 {R : Mem → Option AV → Prop} {a best : Int} {μ : Mem} (H : (0 ≤ best ∧ best < 8) ∧ (0 ≤ best ∧ best < 8) ∧ V_X11_orders R 162 [(0, kR 201), (1, kI a)] (updm μ 222 best ((μ 222 best) + 1))) : V_X11_orders R 152 [(0, kR 201), (1, kI a), (2, kI best)] μ := by
  refine vm_step2 mt_X11_orders ok_X11_orders [(5, [0]), (7, [0, 1]), (20, [0, 1]), (36, [0]), (38, [0, 1]), (46, [0, 2, 3]), (152, [0, 1, 2]), (162, [0, 1]), (172, [0, 1]), (185, [0, 1])] 1000 ?_
  show isC 201 11 ∧ inA 222 0 best ∧ inA 222 0 best ∧ V_X11_orders R 162 [(0, kR 201), (1, kI a)] (updm μ 222 best ((μ 222 best) + 1))
  exact ⟨c_201, ⟨isArr.in a_222 H.1.1 H.1.2, ⟨isArr.in a_222 H.2.1.1 H.2.1.2, H.2.2⟩⟩⟩
set_option maxRecDepth 20000 in
theorem vc_X11_orders_162 {R : Mem → Option AV → Prop} {a : Int} {μ : Mem} (H : V_X11_orders R 172 [(0, kR 201), (1, kI a)] (updm μ 201 34 ((μ 201 34) + 1))) : V_X11_orders R 162 [(0, kR 201), (1, kI a)] μ := by
  refine vm_step2 mt_X11_orders ok_X11_orders [(5, [0]), (7, [0, 1]), (20, [0, 1]), (36, [0]), (38, [0, 1]), (46, [0, 2, 3]), (152, [0, 1, 2]), (162, [0, 1]), (172, [0, 1]), (185, [0, 1])] 1000 ?_
  show isC 201 11 ∧ isC 201 11 ∧ 0 = 0 ∧ True ∧ V_X11_orders R 172 [(0, kR 201), (1, kI a)] (updm μ 201 34 ((μ 201 34) + 1))
  exact ⟨c_201, ⟨c_201, rfl, trivial, H⟩⟩
set_option maxRecDepth 20000 in
theorem vc_X11_orders_172 {R : Mem → Option AV → Prop} {a : Int} {μ : Mem} (H : P_X11_leftNow 201 μ ∧ (0 ≤ (μ 201 34) ∧ (μ 201 34) < 65) ∧ V_X11_orders R 185 [(0, kR 201), (1, kI a)] (updm μ 221 (μ 201 34) (F_X11_leftNow 201 μ))) : V_X11_orders R 172 [(0, kR 201), (1, kI a)] μ := by
  refine vm_step2 mt_X11_orders ok_X11_orders [(5, [0]), (7, [0, 1]), (20, [0, 1]), (36, [0]), (38, [0, 1]), (46, [0, 2, 3]), (152, [0, 1, 2]), (162, [0, 1]), (172, [0, 1]), (185, [0, 1])] 1000 ?_
  show isC 201 11 ∧ isC 201 11 ∧ isC 201 11 ∧ P_X11_leftNow 201 μ ∧ inA 221 1 (μ 201 34) ∧ V_X11_orders R 185 [(0, kR 201), (1, kI a)] (updm μ 221 (μ 201 34) (F_X11_leftNow 201 μ))
  exact ⟨c_201, ⟨c_201, ⟨c_201, H.1, ⟨isArr.in a_221 H.2.1.1 H.2.1.2, H.2.2⟩⟩⟩⟩
set_option maxRecDepth 20000 in
theorem vc_X11_orders_185 {R : Mem → Option AV → Prop} {a : Int} {μ : Mem} (H : V_X11_orders R 38 [(0, kR 201), (1, kI a)] μ) : V_X11_orders R 185 [(0, kR 201), (1, kI a)] μ := by
  refine vm_step2 mt_X11_orders ok_X11_orders [(5, [0]), (7, [0, 1]), (20, [0, 1]), (36, [0]), (38, [0, 1]), (46, [0, 2, 3]), (152, [0, 1, 2]), (162, [0, 1]), (172, [0, 1]), (185, [0, 1])] 1000 ?_
  show V_X11_orders R 38 [(0, kR 201), (1, kI a)] μ
  exact H
theorem fld_1 {μ m : Mem} {f : Int} {l : List Int} (h : FldM μ m l) (hf : f ∉ l) : m 201 f = μ 201 f := h f hf
theorem body_X11_orders {o : Int} {μ : Mem} {R : Mem → Option AV → Prop} (h : P_X11_orders o μ) (hR : ∀ μ' : Mem, Q_X11_orders o μ μ' → R μ' none) : V_X11_orders R 0 [(0, kR o)] μ := by
  obtain ⟨rfl, hb⟩ := h
  have ok := hb.v
  have hp := hb.p
  have hpe := hb.2.1
  -- a memory on the way
  obtain ⟨Fr, hFr⟩ : ∃ Fr : Mem → Prop, Fr = fun m => FldM μ m [34] ∧ ∀ z : Int, z ≠ 201 → z ≠ 220 → z ≠ 221 → z ≠ 222 → m z = μ z := ⟨_, rfl⟩
  have frB : ∀ m, Fr m → MB m ∧ vm m = vm μ ∧ m 201 13 = μ 201 13 := fun m hm => by
    rw [hFr] at hm
    have := MB_frame hb (hm.2 202 (by omega) (by omega) (by omega) (by omega)) (hm.1 12 (by decide)) (hm.1 13 (by decide))
    exact ⟨this.1, this.2, hm.1 13 (by decide)⟩
  have fr34 : ∀ m x, Fr m → Fr (updm m 201 34 x) := fun m x hm => by
    rw [hFr] at hm ⊢
    refine ⟨fun f hf => ?_, fun z h1 h2 h3 h4 => by rw [ru_ne h1]; exact hm.2 z h1 h2 h3 h4⟩
    have q : f ≠ 34 := fun q => hf (by simp [q])
    rw [ru_eq, r1_ne q]
    exact hm.1 f hf
  have frA : ∀ m z j x, (z = 220 ∨ z = 221 ∨ z = 222) → Fr m → Fr (updm m z j x) := fun m z j x hz hm => by
    rw [hFr] at hm ⊢
    refine ⟨fun f hf => by rw [ru_ne (by omega)]; exact hm.1 f hf, fun y h1 h2 h3 h4 => by rw [ru_ne (by omega)]; exact hm.2 y h1 h2 h3 h4⟩
  have fr0 : Fr μ := by rw [hFr]; exact ⟨fun _ _ => rfl, fun _ _ _ _ _ => rfl⟩
  -- one look more
  have main : ∀ n : Int, 0 ≤ n → n ≤ 64 → ∀ m : Mem, Fr m → m 201 34 = n → (∀ i : Int, 0 ≤ i → i < n → m 220 i = rowV (vm μ) i ∧ rowV (vm μ) i ≠ -1) → (∀ i : Int, 0 ≤ i → i ≤ n → m 221 i = leftV (vm μ) (stV (vm μ) i)) → (∀ a : Int, 0 ≤ a → a < vm μ 0 0 → m 222 a = stV (vm μ) n a) → V_X11_orders R 38 [(0, kR 201), (1, kI 1)] m := by
    have step : ∀ n : Int, 0 ≤ n → n ≤ 64 → (n < 64 → ∀ m : Mem, Fr m → m 201 34 = n + 1 → (∀ i : Int, 0 ≤ i → i < n + 1 → m 220 i = rowV (vm μ) i ∧ rowV (vm μ) i ≠ -1) → (∀ i : Int, 0 ≤ i → i ≤ n + 1 → m 221 i = leftV (vm μ) (stV (vm μ) i)) → (∀ a : Int, 0 ≤ a → a < vm μ 0 0 → m 222 a = stV (vm μ) (n + 1) a) → V_X11_orders R 38 [(0, kR 201), (1, kI 1)] m) → ∀ m : Mem, Fr m → m 201 34 = n → (∀ i : Int, 0 ≤ i → i < n → m 220 i = rowV (vm μ) i ∧ rowV (vm μ) i ≠ -1) → (∀ i : Int, 0 ≤ i → i ≤ n → m 221 i = leftV (vm μ) (stV (vm μ) i)) → (∀ a : Int, 0 ≤ a → a < vm μ 0 0 → m 222 a = stV (vm μ) n a) → V_X11_orders R 38 [(0, kR 201), (1, kI 1)] m := by
      intro n n0 n64 nx m hm h34 hro hle hti
      obtain ⟨mb, ev, e13⟩ := frB m hm
      have sb := fun a => stV_bd (v := vm μ) (by omega) n0 a
      refine vc_X11_orders_38 ⟨rr (by omega), fun c => absurd c (by omega), fun _ => ?_⟩
      refine up_ind (P := fun c => V_X11_orders R 46 [(0, kR 201), (2, kI (chooseV (vm μ) (stV (vm μ) n) c)), (3, kI c)] m) (lo := 0) (hi := μ 201 13) ?_ ?_ 0 (by omega) (by omega)
      · intro c c0 c1 ih
        have hc := ok.2.2.2.1 c c0 (by omega)
        rw [chooseV_s c0] at ih
        have hbs := chooseV_ok (v := vm μ) (d := stV (vm μ) n) c0
        generalize chooseV (vm μ) (stV (vm μ) n) c = b at ih hbs ⊢
        refine vc_X11_orders_46 ?_
        rw [e13, of_4 c0 (by omega), ev, hti c c0 (by omega)]
        have sc := sb c
        refine ⟨rr (by omega), rr (by omega), fun q => absurd q (by omega), fun _ => ⟨⟨rfl, mb.1, by omega, by omega⟩, rr (by omega), fun q => ?_, fun q => ⟨by omega, rr (by omega), fun q2 => ⟨rr (by omega), fun q3 => ?_, fun q3 => ?_⟩, fun q2 => ?_⟩⟩⟩
        · rw [if_neg (fun e => absurd e.1 (by omega))] at ih; exact ih
        · rw [if_pos ⟨by omega, by omega, Or.inl (by omega)⟩] at ih; exact ih
        · rcases hbs with hbs | ⟨hb1, hb2, hb3⟩
          · exact absurd hbs (by omega)
          · have hcb := ok.2.2.2.1 b hb1.1 (by omega)
            have sbb := sb b
            have fa := findV_bd ok c0 (by omega) sc.1 (show stV (vm μ) n c ≤ 7 by omega)
            have fb := findV_bd ok hb1.1 (by omega) sbb.1 (show stV (vm μ) n b ≤ 7 by omega)
            have m1 := mul_bd (B := 99) fa.1 fa.2 (show 0 ≤ vm μ 6 b by omega) hcb.2.2.2
            have m2 := mul_bd (B := 99) fb.1 fb.2 (show 0 ≤ vm μ 6 c by omega) hc.2.2.2
            have tc := hti c c0 (by omega)
            have tb := hti b hb1.1 (by omega)
            rw [of_6 hb1.1 (by omega), of_6 c0 (by omega)]
            unfold F_X11_gains
            rw [ev, tc, tb]
            refine ⟨⟨rfl, mb, ⟨c0, by omega⟩, by omega, by omega⟩, ⟨rfl, mb.1, by omega, by omega⟩, rr (by omega), ⟨rfl, mb, ⟨hb1.1, by omega⟩, by omega, by omega⟩, ⟨rfl, mb.1, by omega, by omega⟩, rr (by omega), rl (by omega), rl (by omega), fun c4 => ?_, fun c4 => ?_⟩
            · rw [if_neg (fun e => by rcases e.2.2 with e | e <;> omega)] at ih; exact ih
            · rw [if_pos ⟨by omega, by omega, Or.inr (by omega)⟩] at ih; exact ih
        · rw [if_neg (fun e => absurd e.2.1 (by omega))] at ih; exact ih
      · have er : chooseV (vm μ) (stV (vm μ) n) (μ 201 13) = rowV (vm μ) n := by rw [hpe]; rfl
        rw [er]
        have hro' := rowV_ok (v := vm μ) (by omega) n
        refine vc_X11_orders_46 ?_
        rw [e13, h34]
        refine ⟨rr (by omega), rr (by omega), fun _ => ⟨rr (by omega), fun q => ?_, fun q => ?_⟩, fun q => absurd (Int.le_refl _) q⟩
        · -- no look is left
          have hn1 : rowV (vm μ) n = -1 := by omega
          have ec : cntV (vm μ) = n := by
            by_cases c : n < 64
            · exact cntV_at n0 c (fun i i0 i1 => (hro i i0 i1).2) hn1
            · have : n = 64 := by omega
              rw [this]
              exact cntV_64 fun i i0 i1 => (hro i i0 (by omega)).2
          refine vc_X11_orders_38 ⟨rr (by omega), fun _ => hR m ?_, fun q => absurd rfl q⟩
          rw [hFr] at hm
          exact ⟨⟨by rw [h34, ec], fun i i0 i1 => (hro i i0 (by omega)).1, fun i i0 i1 => hle i i0 (by omega)⟩, hm.1, hm.2⟩
        · -- one look more
          have hn1 : rowV (vm μ) n ≠ -1 := by omega
          have c64 : n < 64 := by
            refine Classical.byContradiction fun c => hn1 ?_
            have : n = 64 := by omega
            rw [this]
            exact row_64 ok fun i i0 i1 => (hro i i0 (by omega)).2
          rcases hro' with hx | hx
          · exact absurd hx hn1
          refine ⟨by omega, ?_⟩
          obtain ⟨b, eb⟩ : ∃ b, b = rowV (vm μ) n := ⟨_, rfl⟩
          rw [← eb] at hx ⊢
          obtain ⟨m1, em1⟩ : ∃ x, x = updm m 220 n b := ⟨_, rfl⟩
          rw [← em1]
          have F1 : Fr m1 := by rw [em1]; exact frA m 220 n b (by omega) hm
          have t1 : m1 222 b = stV (vm μ) n b := by rw [em1, ru_ne (by omega)]; exact hti b hx.1.1 hx.1.2
          refine vc_X11_orders_152 ⟨by omega, by omega, ?_⟩
          rw [t1]
          obtain ⟨m2, em2⟩ : ∃ x, x = updm m1 222 b (stV (vm μ) n b + 1) := ⟨_, rfl⟩
          rw [← em2]
          have F2 : Fr m2 := by rw [em2]; exact frA m1 222 b _ (by omega) F1
          have g34 : m2 201 34 = n := by rw [em2, ru_ne (by omega), em1, ru_ne (by omega), h34]
          refine vc_X11_orders_162 ?_
          rw [g34]
          obtain ⟨m3, em3⟩ : ∃ x, x = updm m2 201 34 (n + 1) := ⟨_, rfl⟩
          rw [← em3]
          have F3 : Fr m3 := by rw [em3]; exact fr34 m2 _ F2
          obtain ⟨mb3, ev3, e133⟩ := frB m3 F3
          have k34 : m3 201 34 = n + 1 := by rw [em3, ru_eq, r1_eq]
          have es : stV (vm μ) (n + 1) = upd1 (stV (vm μ) n) b (stV (vm μ) n b + 1) := by
            rw [stV_s n0, eb]
            unfold nxtV
            exact if_neg hn1
          have k222 : ∀ a : Int, 0 ≤ a → a < vm μ 0 0 → m3 222 a = stV (vm μ) (n + 1) a := fun a a0 a1 => by
            rw [em3, ru_ne (by omega), em2, ru_eq, es]
            by_cases q : a = b
            · rw [q, r1_eq, r1_eq]
            · rw [r1_ne q, r1_ne q, em1, ru_ne (by omega)]
              exact hti a a0 a1
          have sb1 := fun a => stV_bd (v := vm μ) (by omega) (n := n + 1) (by omega) a
          have el : F_X11_leftNow 201 m3 = leftV (vm μ) (stV (vm μ) (n + 1)) := by
            unfold F_X11_leftNow leftV
            rw [ev3]
            exact sm_congr fun a a0 a1 => by rw [k222 a a0 a1]
          refine vc_X11_orders_172 ?_
          rw [k34, el]
          refine ⟨⟨rfl, mb3, fun a a0 a1 => by rw [ev3] at a1; rw [k222 a a0 a1]; exact sb1 a⟩, by omega, ?_⟩
          obtain ⟨m4, em4⟩ : ∃ x, x = updm m3 221 (n + 1) (leftV (vm μ) (stV (vm μ) (n + 1))) := ⟨_, rfl⟩
          rw [← em4]
          have F4 : Fr m4 := by rw [em4]; exact frA m3 221 _ _ (by omega) F3
          refine vc_X11_orders_185 (nx c64 m4 F4 (by rw [em4, ru_ne (by omega)]; exact k34) (fun i i0 i1 => ?_) (fun i i0 i1 => ?_) (fun a a0 a1 => by rw [em4, ru_ne (by omega)]; exact k222 a a0 a1))
          · rw [em4, ru_ne (by omega), em3, ru_ne (by omega), em2, ru_ne (by omega), em1, ru_eq]
            by_cases q : i = n
            · rw [q, r1_eq]; exact ⟨eb, hn1⟩
            · rw [r1_ne q]; exact hro i i0 (by omega)
          · rw [em4, ru_eq]
            by_cases q : i = n + 1
            · rw [q, r1_eq]
            · rw [r1_ne q, em3, ru_ne (by omega), em2, ru_ne (by omega), em1, ru_ne (by omega)]
              exact hle i i0 (by omega)
    refine up_ind (P := fun n => ∀ m : Mem, Fr m → m 201 34 = n → (∀ i : Int, 0 ≤ i → i < n → m 220 i = rowV (vm μ) i ∧ rowV (vm μ) i ≠ -1) → (∀ i : Int, 0 ≤ i → i ≤ n → m 221 i = leftV (vm μ) (stV (vm μ) i)) → (∀ a : Int, 0 ≤ a → a < vm μ 0 0 → m 222 a = stV (vm μ) n a) → V_X11_orders R 38 [(0, kR 201), (1, kI 1)] m) (lo := 0) (hi := 64) (fun n n0 n1 ih => step n n0 (by omega) (fun _ => ih)) (step 64 (by omega) (by omega) (fun c => absurd c (by omega)))
  -- the beginning
  refine vc_X11_orders_0 ?_
  obtain ⟨m1, em1⟩ : ∃ x, x = updm μ 201 34 0 := ⟨_, rfl⟩
  rw [← em1]
  have F1 : Fr m1 := by rw [em1]; exact fr34 μ 0 fr0
  refine vc_X11_orders_5 ?_
  refine up_ind (P := fun a => ∀ m : Mem, Fr m → m 201 34 = 0 → (∀ j : Int, 0 ≤ j → j < a → m 222 j = 0) → V_X11_orders R 7 [(0, kR 201), (1, kI a)] m) (lo := 0) (hi := 8) ?_ ?_ 0 (by omega) (by omega) m1 F1 (by rw [em1, ru_eq, r1_eq]) (fun j j0 j1 => absurd j1 (by omega))
  · intro a a0 a1 ih m hm h34 hz
    refine vc_X11_orders_7 ⟨rr (by omega), fun q => absurd q (by omega), fun _ => ⟨by omega, vc_X11_orders_20 (ih _ (frA m 222 a 0 (by omega) hm) (by rw [ru_ne (by omega)]; exact h34) (fun j j0 j1 => ?_))⟩⟩
    rw [ru_eq]
    by_cases q : j = a
    · rw [q, r1_eq]
    · rw [r1_ne q]; exact hz j j0 (by omega)
  · intro m hm h34 hz
    obtain ⟨mb, ev, e13⟩ := frB m hm
    have z0 : ∀ a : Int, 0 ≤ a → a < vm μ 0 0 → m 222 a = stV (vm μ) 0 a := fun a a0 a1 => hz a a0 (by omega)
    have el : F_X11_leftNow 201 m = leftV (vm μ) (stV (vm μ) 0) := by
      unfold F_X11_leftNow leftV
      rw [ev]
      exact sm_congr fun a a0 a1 => by rw [z0 a a0 a1]
    refine vc_X11_orders_7 ⟨rr (by omega), fun _ => ⟨⟨rfl, mb, fun a a0 a1 => by rw [ev] at a1; rw [hz a a0 (by omega)]; omega⟩, ?_⟩, fun q => absurd (Int.le_refl _) q⟩
    rw [el]
    refine vc_X11_orders_36 (main 0 (by omega) (by omega) _ (frA m 221 0 _ (by omega) hm) (by rw [ru_ne (by omega)]; exact h34) (fun i i0 i1 => absurd i1 (by omega)) (fun i i0 i1 => ?_) (fun a a0 a1 => by rw [ru_ne (by omega)]; exact z0 a a0 a1))
    have : i = 0 := by omega
    rw [this, ru_eq, r1_eq]
theorem ct_X11_orders : Ct mX11_orders 3 68 0 0 (nrmS S_X11_orders) := by
  refine ct_vm (own := RX11) (by decide +kernel) rfl ?_ ?_
  · intro as μ Q hS
    unfold S_X11_orders at hS
    split at hS
    · exact Nat.le_of_ble_eq_true rfl
    · exact hS.elim
  · intro as μ R hS
    unfold S_X11_orders at hS
    split at hS
    · exact body_X11_orders hS.1 hS.2
    · exact hS.elim
def P_X11_ordersOf (o n : Int) (μ : Mem) : Prop := o = 201 ∧ SOk (stM μ) ∧ r32 n
def Q_X11_ordersOf (_ n : Int) (μ μ' : Mem) (r : Int) : Prop := (∀ z : Int, z ≠ 201 → z ≠ 220 → z ≠ 221 → z ≠ 222 → μ' z = μ z) ∧ (¬ (0 ≤ n ∧ n < μ 202 0) → r = 0) ∧ (0 ≤ n ∧ n < μ 202 0 → r = 1 ∧ MB μ' ∧ vm μ' = (stM μ).1.2.2 n ∧ LkM μ' (vm μ'))
def S_X11_ordersOf : S0t := fun as μ Q => match as with
  | [(2, x0), (0, x1)] => P_X11_ordersOf x0 x1 μ ∧ ∀ (μ' : Mem) (r : Int), Q_X11_ordersOf x0 x1 μ μ' r → Q μ' (some (kI r))
  | _ => False
theorem mono_X11_ordersOf : Mono S_X11_ordersOf := by
  intro as μ Q Q' h hS
  unfold S_X11_ordersOf at hS ⊢
  split at hS
  · exact ⟨hS.1, fun μ' r q => h _ _ (hS.2 _ _ q)⟩
  · exact hS.elim
def iX11_ordersOf : Inf := (kX11_ordersOf, fTX11, pTX11, cTX11, lTX11, sTX11, [(219, 0, 1, 11, S_X11_isTown), (367, 0, 0, 11, S_X11_orders)])
theorem ok_X11_ordersOf : infOK iX11_ordersOf mX11_ordersOf RX11 4 91 := ⟨kkX11_ordersOf, fTX11_ok, pTX11_ok _, cTX11_ok, lTX11_ok, sTX11_ok, c_cons ⟨mX11_isTown, 1, 22, ct_X11_isTown, mmX11_isTown, vvX11_isTown, lkX11_219, ⟨by decide, by decide⟩, ⟨_, _, rfl⟩, by decide, mono_X11_isTown⟩ (c_cons ⟨mX11_orders, 3, 68, ct_X11_orders, mmX11_orders, vvX11_orders, lkX11_367, ⟨by decide, by decide⟩, ⟨_, _, rfl⟩, by decide, mono_X11_orders⟩ (c_nil))⟩
theorem mt_X11_ordersOf : mtOK [] RX11 4 91 := mt_nil
abbrev V_X11_ordersOf (R : Mem → Option AV → Prop) (pc : Nat) (lc : List (Nat × AV)) (μ : Mem) : Prop := VM mX11_ordersOf RX11 4 91 R pc lc [] μ
set_option maxRecDepth 20000 in
theorem vc_X11_ordersOf_0 {R : Mem → Option AV → Prop} {n : Int} {μ : Mem} (H : P_X11_isTown 201 n μ ∧ (∀ (μ1 : Mem) (rv2 : Int), Q_X11_isTown 201 n μ μ1 rv2 → r32 rv2 ∧ ((¬ rv2 = 0) → P_X11_orders 201 μ1 ∧ (∀ (μ4 : Mem), Q_X11_orders 201 μ1 μ4 → R μ4 (some (kI 1)))) ∧ (¬ (¬ rv2 = 0) → R μ1 (some (kI 0))))) : V_X11_ordersOf R 0 [(0, kR 201), (1, kI n)] μ := by
  refine vm_step2 mt_X11_ordersOf ok_X11_ordersOf [] 1000 ?_
  show isC 201 11 ∧ P_X11_isTown 201 n μ ∧ (∀ (μ1 : Mem) (rv2 : Int), Q_X11_isTown 201 n μ μ1 rv2 → r32 rv2 ∧ ((¬ rv2 = 0) → isC 201 11 ∧ P_X11_orders 201 μ1 ∧ (∀ (μ4 : Mem), Q_X11_orders 201 μ1 μ4 → (0 ≤ (1 : Int) ∧ (1 : Int) ≤ 1) ∧ R μ4 (some (kI 1)))) ∧ (¬ (¬ rv2 = 0) → (0 ≤ (0 : Int) ∧ (0 : Int) ≤ 1) ∧ R μ1 (some (kI 0))))
  exact ⟨c_201, H.1, fun μ1 rv2 hq3 => ⟨(H.2 μ1 rv2 hq3).1, fun hc7 => ⟨c_201, ((H.2 μ1 rv2 hq3).2.1 hc7).1, fun μ4 hq6 => ⟨⟨by omega, by omega⟩, (((H.2 μ1 rv2 hq3).2.1 hc7).2 μ4 hq6)⟩⟩, fun hc7 => ⟨⟨by omega, by omega⟩, ((H.2 μ1 rv2 hq3).2.2 hc7)⟩⟩⟩
theorem body_X11_ordersOf {o n : Int} {μ : Mem} {R : Mem → Option AV → Prop} (h : P_X11_ordersOf o n μ) (hR : ∀ (μ' : Mem) (r : Int), Q_X11_ordersOf o n μ μ' r → R μ' (some (kI r))) : V_X11_ordersOf R 0 [(0, kR o), (1, kI n)] μ := by
  obtain ⟨rfl, hs, rn⟩ := h
  refine vc_X11_ordersOf_0 ⟨⟨rfl, hs, rn⟩, fun m rv q => ?_⟩
  obtain ⟨q1, q2, q3, q4⟩ := q
  by_cases c : 0 ≤ n ∧ n < μ 202 0
  · obtain ⟨rfl, hb, hv, h12⟩ := q4 c
    refine ⟨rr (by omega), fun _ => ⟨⟨rfl, hb⟩, fun m4 d => hR m4 1 ?_⟩, fun q => absurd (show ¬ (1 : Int) = 0 by omega) q⟩
    obtain ⟨d1, d2, d3⟩ := d
    have mb4 := MB_frame hb (d3 202 (by omega) (by omega) (by omega) (by omega)) (d2 12 (by decide)) (d2 13 (by decide))
    exact ⟨fun z h1 h2 h3 h4 => by rw [d3 z h1 h2 h3 h4, q1 z h1], fun e => absurd c e, fun _ => ⟨rfl, mb4.1, by rw [mb4.2, hv], by rw [mb4.2]; exact d1⟩⟩
  · have e := q3 c
    subst e
    exact ⟨rr (by omega), fun q => absurd rfl q, fun _ => hR m 0 ⟨fun z h1 _ _ _ => q1 z h1, fun _ => rfl, fun e => absurd e c⟩⟩
theorem ct_X11_ordersOf : Ct mX11_ordersOf 4 91 0 0 (nrmS S_X11_ordersOf) := by
  refine ct_vm (own := RX11) (by decide +kernel) rfl ?_ ?_
  · intro as μ Q hS
    unfold S_X11_ordersOf at hS
    split at hS
    · exact Nat.le_of_ble_eq_true rfl
    · exact hS.elim
  · intro as μ R hS
    unfold S_X11_ordersOf at hS
    split at hS
    · exact body_X11_ordersOf hS.1 hS.2
    · exact hS.elim
def P_X11_look (o n k : Int) (μ : Mem) : Prop := o = 201 ∧ SOk (stM μ) ∧ r32 n ∧ r32 k
def Q_X11_look (_ n k : Int) (μ μ' : Mem) (r : Int) : Prop := AskM μ μ' ∧ r = onT (stM μ).1 n (-1) (lookT k)
def S_X11_look : S0t := fun as μ Q => match as with
  | [(2, x0), (0, x1), (0, x2)] => P_X11_look x0 x1 x2 μ ∧ ∀ (μ' : Mem) (r : Int), Q_X11_look x0 x1 x2 μ μ' r → Q μ' (some (kI r))
  | _ => False
theorem mono_X11_look : Mono S_X11_look := by
  intro as μ Q Q' h hS
  unfold S_X11_look at hS ⊢
  split at hS
  · exact ⟨hS.1, fun μ' r q => h _ _ (hS.2 _ _ q)⟩
  · exact hS.elim
def iX11_look : Inf := (kX11_look, fTX11, pTX11, cTX11, lTX11, sTX11, [(370, 0, 1, 11, S_X11_ordersOf), (162, 1, 3, 0, S_X11_isIn)])
theorem ok_X11_look : infOK iX11_look mX11_look RX11 5 112 := ⟨kkX11_look, fTX11_ok, pTX11_ok _, cTX11_ok, lTX11_ok, sTX11_ok, c_cons ⟨mX11_ordersOf, 4, 91, ct_X11_ordersOf, mmX11_ordersOf, vvX11_ordersOf, lkX11_370, ⟨by decide, by decide⟩, ⟨_, _, rfl⟩, by decide, mono_X11_ordersOf⟩ (c_cons ⟨mX11_isIn, 0, 0, ct_X11_isIn, mmX11_isIn, stX11_isIn, lkX11_162, ⟨by decide, by decide⟩, mono_X11_isIn⟩ (c_nil))⟩
theorem mt_X11_look : mtOK [] RX11 5 112 := mt_nil
abbrev V_X11_look (R : Mem → Option AV → Prop) (pc : Nat) (lc : List (Nat × AV)) (μ : Mem) : Prop := VM mX11_look RX11 5 112 R pc lc [] μ
set_option maxRecDepth 20000 in
theorem vc_X11_look_0 {R : Mem → Option AV → Prop} {n k : Int} {μ : Mem} (H : P_X11_ordersOf 201 n μ ∧ (∀ (μ1 : Mem) (rv2 : Int), Q_X11_ordersOf 201 n μ μ1 rv2 → r32 rv2 ∧ ((rv2 = 0) → R μ1 (some (kI (-1)))) ∧ (¬ (rv2 = 0) → P_X11_isIn k 0 ((μ1 201 34) - 1) μ1 ∧ r32 (F_X11_isIn k 0 ((μ1 201 34) - 1) μ1) ∧ (((F_X11_isIn k 0 ((μ1 201 34) - 1) μ1) = 0) → R μ1 (some (kI (-1)))) ∧ (¬ ((F_X11_isIn k 0 ((μ1 201 34) - 1) μ1) = 0) → (0 ≤ k ∧ k < 64) ∧ R μ1 (some (kI (μ1 220 k))))))) : V_X11_look R 0 [(0, kR 201), (1, kI n), (2, kI k)] μ := by
  refine vm_step2 mt_X11_look ok_X11_look [] 1000 ?_
  show isC 201 11 ∧ P_X11_ordersOf 201 n μ ∧ (∀ (μ1 : Mem) (rv2 : Int), Q_X11_ordersOf 201 n μ μ1 rv2 → r32 rv2 ∧ ((rv2 = 0) → R μ1 (some (kI (-1)))) ∧ (¬ (rv2 = 0) → isC 201 11 ∧ P_X11_isIn k 0 ((μ1 201 34) - 1) μ1 ∧ r32 (F_X11_isIn k 0 ((μ1 201 34) - 1) μ1) ∧ (((F_X11_isIn k 0 ((μ1 201 34) - 1) μ1) = 0) → R μ1 (some (kI (-1)))) ∧ (¬ ((F_X11_isIn k 0 ((μ1 201 34) - 1) μ1) = 0) → isC 201 11 ∧ inA 220 0 k ∧ R μ1 (some (kI (μ1 220 k))))))
  exact ⟨c_201, H.1, fun μ1 rv2 hq3 => ⟨(H.2 μ1 rv2 hq3).1, fun hc5 => ((H.2 μ1 rv2 hq3).2.1 hc5), fun hc5 => ⟨c_201, ⟨((H.2 μ1 rv2 hq3).2.2 hc5).1, ⟨((H.2 μ1 rv2 hq3).2.2 hc5).2.1, fun hc4 => (((H.2 μ1 rv2 hq3).2.2 hc5).2.2.1 hc4), fun hc4 => ⟨c_201, ⟨isArr.in a_220 (((H.2 μ1 rv2 hq3).2.2 hc5).2.2.2 hc4).1.1 (((H.2 μ1 rv2 hq3).2.2 hc5).2.2.2 hc4).1.2, (((H.2 μ1 rv2 hq3).2.2 hc5).2.2.2 hc4).2⟩⟩⟩⟩⟩⟩⟩
theorem body_X11_look {o n k : Int} {μ : Mem} {R : Mem → Option AV → Prop} (h : P_X11_look o n k μ) (hR : ∀ (μ' : Mem) (r : Int), Q_X11_look o n k μ μ' r → R μ' (some (kI r))) : V_X11_look R 0 [(0, kR o), (1, kI n), (2, kI k)] μ := by
  obtain ⟨rfl, hs, r_n, r_k⟩ := h
  refine vc_X11_look_0 ⟨⟨rfl, hs, r_n⟩, fun m rv q => ?_⟩
  obtain ⟨q1, q3, q4⟩ := q
  have ask : AskM μ m := fun z hz => q1 z (by omega) (by omega) (by omega) (by omega)
  by_cases c : 0 ≤ n ∧ n < μ 202 0
  · obtain ⟨rfl, hb, hv, hl⟩ := q4 c
    have ok := hb.v
    have hp := hb.p
    have cb := cntV_bd (vm m)
    have fin : ∀ x : Int, x = (lookT k) (vm m) → R m (some (kI x)) := fun x hx => hR m x ⟨ask, by rw [hx, onM_yes c, ← hv]⟩
    refine ⟨rr (by omega), fun q => absurd q (by omega), fun _ => ?_⟩
    unfold lookT at fin
    have ir := isIn_r (x := k) (lo := 0) (hi := m 201 34 - 1) (μ := m)
    have e34 := hl.1
    refine ⟨⟨r_k, rr (by omega), rr (by omega)⟩, rr (by omega), fun d => fin _ (if_neg (fun q => isIn_1.mpr ⟨q.1, by omega⟩ d)).symm, fun d => ?_⟩
    have dk := isIn_1.mp d
    refine ⟨by omega, fin _ ?_⟩
    rw [if_pos (by omega), hl.2.1 k dk.1 (by omega)]
  · have e := q3 c
    subst e
    exact ⟨rr (by omega), fun _ => hR m _ ⟨ask, (onM_no c).symm⟩, fun q => absurd rfl q⟩
theorem ct_X11_look : Ct mX11_look 5 112 0 0 (nrmS S_X11_look) := by
  refine ct_vm (own := RX11) (by decide +kernel) rfl ?_ ?_
  · intro as μ Q hS
    unfold S_X11_look at hS
    split at hS
    · exact Nat.le_of_ble_eq_true rfl
    · exact hS.elim
  · intro as μ R hS
    unfold S_X11_look at hS
    split at hS
    · exact body_X11_look hS.1 hS.2
    · exact hS.elim
def P_X11_left (o n k : Int) (μ : Mem) : Prop := o = 201 ∧ SOk (stM μ) ∧ r32 n ∧ r32 k
def Q_X11_left (_ n k : Int) (μ μ' : Mem) (r : Int) : Prop := AskM μ μ' ∧ r = onT (stM μ).1 n (-1) (leftT k)
def S_X11_left : S0t := fun as μ Q => match as with
  | [(2, x0), (0, x1), (0, x2)] => P_X11_left x0 x1 x2 μ ∧ ∀ (μ' : Mem) (r : Int), Q_X11_left x0 x1 x2 μ μ' r → Q μ' (some (kL r))
  | _ => False
theorem mono_X11_left : Mono S_X11_left := by
  intro as μ Q Q' h hS
  unfold S_X11_left at hS ⊢
  split at hS
  · exact ⟨hS.1, fun μ' r q => h _ _ (hS.2 _ _ q)⟩
  · exact hS.elim
def iX11_left : Inf := (kX11_left, fTX11, pTX11, cTX11, lTX11, sTX11, [(162, 1, 3, 0, S_X11_isIn), (370, 0, 1, 11, S_X11_ordersOf)])
theorem ok_X11_left : infOK iX11_left mX11_left RX11 5 112 := ⟨kkX11_left, fTX11_ok, pTX11_ok _, cTX11_ok, lTX11_ok, sTX11_ok, c_cons ⟨mX11_isIn, 0, 0, ct_X11_isIn, mmX11_isIn, stX11_isIn, lkX11_162, ⟨by decide, by decide⟩, mono_X11_isIn⟩ (c_cons ⟨mX11_ordersOf, 4, 91, ct_X11_ordersOf, mmX11_ordersOf, vvX11_ordersOf, lkX11_370, ⟨by decide, by decide⟩, ⟨_, _, rfl⟩, by decide, mono_X11_ordersOf⟩ (c_nil))⟩
theorem mt_X11_left : mtOK [] RX11 5 112 := mt_nil
abbrev V_X11_left (R : Mem → Option AV → Prop) (pc : Nat) (lc : List (Nat × AV)) (μ : Mem) : Prop := VM mX11_left RX11 5 112 R pc lc [] μ
set_option maxRecDepth 20000 in
theorem vc_X11_left_0 {R : Mem → Option AV → Prop} {n k : Int} {μ : Mem} (H : P_X11_isIn k 0 64 μ ∧ r32 (F_X11_isIn k 0 64 μ) ∧ (((F_X11_isIn k 0 64 μ) = 0) → R μ (some (kL (-1)))) ∧ (¬ ((F_X11_isIn k 0 64 μ) = 0) → P_X11_ordersOf 201 n μ ∧ (∀ (μ1 : Mem) (rv2 : Int), Q_X11_ordersOf 201 n μ μ1 rv2 → r32 rv2 ∧ ((rv2 = 0) → R μ1 (some (kL (-1)))) ∧ (¬ (rv2 = 0) → r32 k ∧ r32 (μ1 201 34) ∧ (((μ1 201 34) ≤ k) → (0 ≤ (μ1 201 34) ∧ (μ1 201 34) < 65) ∧ R μ1 (some (kL (μ1 221 (μ1 201 34))))) ∧ (¬ ((μ1 201 34) ≤ k) → (0 ≤ k ∧ k < 65) ∧ R μ1 (some (kL (μ1 221 k)))))))) : V_X11_left R 0 [(0, kR 201), (1, kI n), (2, kI k)] μ := by
  refine vm_step2 mt_X11_left ok_X11_left [] 1000 ?_
  show P_X11_isIn k 0 64 μ ∧ r32 (F_X11_isIn k 0 64 μ) ∧ (((F_X11_isIn k 0 64 μ) = 0) → R μ (some (kL (-1)))) ∧ (¬ ((F_X11_isIn k 0 64 μ) = 0) → isC 201 11 ∧ P_X11_ordersOf 201 n μ ∧ (∀ (μ1 : Mem) (rv2 : Int), Q_X11_ordersOf 201 n μ μ1 rv2 → r32 rv2 ∧ ((rv2 = 0) → R μ1 (some (kL (-1)))) ∧ (¬ (rv2 = 0) → isC 201 11 ∧ isC 201 11 ∧ (r32 k ∧ r32 (μ1 201 34)) ∧ (((μ1 201 34) ≤ k) → isC 201 11 ∧ inA 221 1 (μ1 201 34) ∧ R μ1 (some (kL (μ1 221 (μ1 201 34))))) ∧ (¬ ((μ1 201 34) ≤ k) → inA 221 1 k ∧ R μ1 (some (kL (μ1 221 k)))))))
  exact ⟨H.1, ⟨H.2.1, fun hc6 => (H.2.2.1 hc6), fun hc6 => ⟨c_201, (H.2.2.2 hc6).1, fun μ1 rv2 hq3 => ⟨((H.2.2.2 hc6).2 μ1 rv2 hq3).1, fun hc5 => (((H.2.2.2 hc6).2 μ1 rv2 hq3).2.1 hc5), fun hc5 => ⟨c_201, ⟨c_201, ⟨⟨(((H.2.2.2 hc6).2 μ1 rv2 hq3).2.2 hc5).1, (((H.2.2.2 hc6).2 μ1 rv2 hq3).2.2 hc5).2.1⟩, fun hc4 => ⟨c_201, ⟨isArr.in a_221 ((((H.2.2.2 hc6).2 μ1 rv2 hq3).2.2 hc5).2.2.1 hc4).1.1 ((((H.2.2.2 hc6).2 μ1 rv2 hq3).2.2 hc5).2.2.1 hc4).1.2, ((((H.2.2.2 hc6).2 μ1 rv2 hq3).2.2 hc5).2.2.1 hc4).2⟩⟩, fun hc4 => ⟨isArr.in a_221 ((((H.2.2.2 hc6).2 μ1 rv2 hq3).2.2 hc5).2.2.2 hc4).1.1 ((((H.2.2.2 hc6).2 μ1 rv2 hq3).2.2 hc5).2.2.2 hc4).1.2, ((((H.2.2.2 hc6).2 μ1 rv2 hq3).2.2 hc5).2.2.2 hc4).2⟩⟩⟩⟩⟩⟩⟩⟩
theorem body_X11_left {o n k : Int} {μ : Mem} {R : Mem → Option AV → Prop} (h : P_X11_left o n k μ) (hR : ∀ (μ' : Mem) (r : Int), Q_X11_left o n k μ μ' r → R μ' (some (kL r))) : V_X11_left R 0 [(0, kR o), (1, kI n), (2, kI k)] μ := by
  obtain ⟨rfl, hs, r_n, r_k⟩ := h
  have ir := isIn_r (x := k) (lo := 0) (hi := 64) (μ := μ)
  have bad : ¬ (0 ≤ k ∧ k ≤ 64) → Q_X11_left 201 n k μ μ (-1) := fun q => by
    refine ⟨AskM_0 μ, ?_⟩
    by_cases c : 0 ≤ n ∧ n < μ 202 0
    · rw [onM_yes c]
      unfold leftT
      rw [if_neg q]
    · exact (onM_no c).symm
  refine vc_X11_left_0 ⟨⟨r_k, rr (by omega), rr (by omega)⟩, rr (by omega), fun d => hR μ _ (bad (fun q => isIn_1.mpr q d)), fun d => ⟨⟨rfl, hs, r_n⟩, fun m rv q => ?_⟩⟩
  have dk := isIn_1.mp d
  obtain ⟨q1, q3, q4⟩ := q
  have ask : AskM μ m := fun z hz => q1 z (by omega) (by omega) (by omega) (by omega)
  by_cases c : 0 ≤ n ∧ n < μ 202 0
  · obtain ⟨rfl, hb, hv, hl⟩ := q4 c
    have ok := hb.v
    have hp := hb.p
    have cb := cntV_bd (vm m)
    have fin : ∀ x : Int, x = (leftT k) (vm m) → R m (some (kL x)) := fun x hx => hR m x ⟨ask, by rw [hx, onM_yes c, ← hv]⟩
    refine ⟨rr (by omega), fun q => absurd q (by omega), fun _ => ?_⟩
    unfold leftT at fin
    have e34 := hl.1
    rw [if_pos dk] at fin
    refine ⟨r_k, rr (by omega), fun g => ⟨by omega, fin _ ?_⟩, fun g => ⟨by omega, fin _ ?_⟩⟩
    · rw [show min k (cntV (vm m)) = cntV (vm m) by omega, e34]
      exact hl.2.2 _ cb.1 (Int.le_refl _)
    · rw [show min k (cntV (vm m)) = k by omega]
      exact hl.2.2 k dk.1 (by omega)
  · have e := q3 c
    subst e
    exact ⟨rr (by omega), fun _ => hR m _ ⟨ask, (onM_no c).symm⟩, fun q => absurd rfl q⟩
theorem ct_X11_left : Ct mX11_left 5 112 0 0 (nrmS S_X11_left) := by
  refine ct_vm (own := RX11) (by decide +kernel) rfl ?_ ?_
  · intro as μ Q hS
    unfold S_X11_left at hS
    split at hS
    · exact Nat.le_of_ble_eq_true rfl
    · exact hS.elim
  · intro as μ R hS
    unfold S_X11_left at hS
    split at hS
    · exact body_X11_left hS.1 hS.2
    · exact hS.elim
def P_X11_gainOf (o n : Int) (μ : Mem) : Prop := o = 201 ∧ MB μ ∧ LkM μ (vm μ) ∧ 0 ≤ n ∧ n ≤ 64
def F_X11_gainOf (_ n : Int) (μ : Mem) : Int := gainV (vm μ) (min n (cntV (vm μ)))
def S_X11_gainOf : S0t := fun as μ Q => match as with
  | [(2, x0), (0, x1)] => P_X11_gainOf x0 x1 μ ∧ Q μ (some (kL (F_X11_gainOf x0 x1 μ)))
  | _ => False
theorem mono_X11_gainOf : Mono S_X11_gainOf := by
  intro as μ Q Q' h hS
  unfold S_X11_gainOf at hS ⊢
  split at hS
  · exact ⟨hS.1, h _ _ hS.2⟩
  · exact hS.elim
def iX11_gainOf : Inf := (kX11_gainOf, fTX11, pTX11, cTX11, lTX11, sTX11, [(209, 0, 1, 11, S_X11_of)])
theorem ok_X11_gainOf : infOK iX11_gainOf mX11_gainOf RX11 1 21 := ⟨kkX11_gainOf, fTX11_ok, pTX11_ok _, cTX11_ok, lTX11_ok, sTX11_ok, c_cons ⟨mX11_of, 0, 0, ct_X11_of, mmX11_of, vvX11_of, lkX11_209, ⟨by decide, by decide⟩, ⟨_, _, rfl⟩, by decide, mono_X11_of⟩ (c_nil)⟩
theorem mt_X11_gainOf : mtOK [] RX11 1 21 := mt_nil
abbrev V_X11_gainOf (R : Mem → Option AV → Prop) (pc : Nat) (lc : List (Nat × AV)) (μ : Mem) : Prop := VM mX11_gainOf RX11 1 21 R pc lc [] μ
set_option maxRecDepth 20000 in
theorem vc_X11_gainOf_0 {R : Mem → Option AV → Prop} {n : Int} {μ : Mem} (H : r32 n ∧ r32 (μ 201 34) ∧ (((μ 201 34) ≤ n) → P_X11_of 201 2 μ ∧ r32 (F_X11_of 201 2 μ) ∧ (0 ≤ (μ 201 34) ∧ (μ 201 34) < 65) ∧ V_X11_gainOf R 41 [(0, kR 201), (2, kI (μ 201 34)), (3, kL ((F_X11_of 201 2 μ) * ((μ 221 0) - (μ 221 (μ 201 34))))), (5, kI 0)] μ) ∧ (¬ ((μ 201 34) ≤ n) → P_X11_of 201 2 μ ∧ r32 (F_X11_of 201 2 μ) ∧ (0 ≤ n ∧ n < 65) ∧ V_X11_gainOf R 41 [(0, kR 201), (2, kI n), (3, kL ((F_X11_of 201 2 μ) * ((μ 221 0) - (μ 221 n)))), (5, kI 0)] μ)) : V_X11_gainOf R 0 [(0, kR 201), (1, kI n)] μ := by
  refine vm_step2 mt_X11_gainOf ok_X11_gainOf [(41, [0, 2, 3, 5])] 1000 ?_
  show isC 201 11 ∧ (r32 n ∧ r32 (μ 201 34)) ∧ (((μ 201 34) ≤ n) → isC 201 11 ∧ isC 201 11 ∧ P_X11_of 201 2 μ ∧ r32 (F_X11_of 201 2 μ) ∧ isC 201 11 ∧ inA 221 1 (0 : Int) ∧ isC 201 11 ∧ inA 221 1 (μ 201 34) ∧ V_X11_gainOf R 41 [(0, kR 201), (2, kI (μ 201 34)), (3, kL ((F_X11_of 201 2 μ) * ((μ 221 0) - (μ 221 (μ 201 34))))), (5, kI 0)] μ) ∧ (¬ ((μ 201 34) ≤ n) → isC 201 11 ∧ P_X11_of 201 2 μ ∧ r32 (F_X11_of 201 2 μ) ∧ isC 201 11 ∧ inA 221 1 (0 : Int) ∧ isC 201 11 ∧ inA 221 1 n ∧ V_X11_gainOf R 41 [(0, kR 201), (2, kI n), (3, kL ((F_X11_of 201 2 μ) * ((μ 221 0) - (μ 221 n)))), (5, kI 0)] μ)
  exact ⟨c_201, ⟨⟨H.1, H.2.1⟩, fun hc1 => ⟨c_201, ⟨c_201, (H.2.2.1 hc1).1, ⟨(H.2.2.1 hc1).2.1, ⟨c_201, ⟨isArr.in a_221 (by omega) (by omega), ⟨c_201, ⟨isArr.in a_221 (H.2.2.1 hc1).2.2.1.1 (H.2.2.1 hc1).2.2.1.2, (H.2.2.1 hc1).2.2.2⟩⟩⟩⟩⟩⟩⟩, fun hc1 => ⟨c_201, (H.2.2.2 hc1).1, ⟨(H.2.2.2 hc1).2.1, ⟨c_201, ⟨isArr.in a_221 (by omega) (by omega), ⟨c_201, ⟨isArr.in a_221 (H.2.2.2 hc1).2.2.1.1 (H.2.2.2 hc1).2.2.1.2, (H.2.2.2 hc1).2.2.2⟩⟩⟩⟩⟩⟩⟩⟩
set_option maxRecDepth 20000 in
theorem vc_X11_gainOf_41 {R : Mem → Option AV → Prop} {mo sum i : Int} {μ : Mem} (H : r32 i ∧ r32 mo ∧ ((mo ≤ i) → R μ (some (kL sum))) ∧ (¬ (mo ≤ i) → (0 ≤ i ∧ i < 64) ∧ P_X11_of 201 (30 + (μ 220 i)) μ ∧ r32 (F_X11_of 201 (30 + (μ 220 i)) μ) ∧ (0 ≤ i ∧ i < 65) ∧ V_X11_gainOf R 41 [(0, kR 201), (2, kI mo), (3, kL (sum - ((F_X11_of 201 (30 + (μ 220 i)) μ) * (μ 221 i)))), (5, kI (i + 1))] μ)) : V_X11_gainOf R 41 [(0, kR 201), (2, kI mo), (3, kL sum), (5, kI i)] μ := by
  refine vm_step2 mt_X11_gainOf ok_X11_gainOf [(41, [0, 2, 3, 5])] 1000 ?_
  show (r32 i ∧ r32 mo) ∧ ((mo ≤ i) → R μ (some (kL sum))) ∧ (¬ (mo ≤ i) → isC 201 11 ∧ inA 220 0 i ∧ isC 201 11 ∧ P_X11_of 201 (30 + (μ 220 i)) μ ∧ r32 (F_X11_of 201 (30 + (μ 220 i)) μ) ∧ isC 201 11 ∧ inA 221 1 i ∧ V_X11_gainOf R 41 [(0, kR 201), (2, kI mo), (3, kL (sum - ((F_X11_of 201 (30 + (μ 220 i)) μ) * (μ 221 i)))), (5, kI (i + 1))] μ)
  exact ⟨⟨H.1, H.2.1⟩, fun hc2 => (H.2.2.1 hc2), fun hc2 => ⟨c_201, ⟨isArr.in a_220 (H.2.2.2 hc2).1.1 (H.2.2.2 hc2).1.2, ⟨c_201, (H.2.2.2 hc2).2.1, ⟨(H.2.2.2 hc2).2.2.1, ⟨c_201, ⟨isArr.in a_221 (H.2.2.2 hc2).2.2.2.1.1 (H.2.2.2 hc2).2.2.2.1.2, (H.2.2.2 hc2).2.2.2.2⟩⟩⟩⟩⟩⟩⟩
theorem body_X11_gainOf {o n : Int} {μ : Mem} {R : Mem → Option AV → Prop} (h : P_X11_gainOf o n μ) (hR : R μ (some (kL (F_X11_gainOf o n μ)))) : V_X11_gainOf R 0 [(0, kR o), (1, kI n)] μ := by
  obtain ⟨rfl, hb, hk, hn⟩ := h
  have ok := hb.v
  have cb := cntV_bd (vm μ)
  have e2 : F_X11_of 201 2 μ = vm μ 2 0 := rfl
  have hpr := ok.2.1
  obtain ⟨k34, k220, k221⟩ := hk
  have go : ∀ mo : Int, mo = min n (cntV (vm μ)) → V_X11_gainOf R 41 [(0, kR 201), (2, kI mo), (3, kL ((F_X11_of 201 2 μ) * ((μ 221 0) - (μ 221 mo)))), (5, kI 0)] μ := by
    intro mo hmo
    have m0 : 0 ≤ mo ∧ mo ≤ cntV (vm μ) := by omega
    rw [e2, k221 0 (by omega) (by omega), k221 mo m0.1 m0.2]
    have key := up_ind (P := fun i => V_X11_gainOf R 41 [(0, kR 201), (2, kI mo), (3, kL (vm μ 2 0 * (leftV (vm μ) (stV (vm μ) 0) - leftV (vm μ) (stV (vm μ) mo)) - sm (fun i => vm μ 6 (rowV (vm μ) i) * leftV (vm μ) (stV (vm μ) i)) i)), (5, kI i)] μ) (lo := 0) (hi := mo) ?_ ?_
    · have := key 0 (by omega) m0.1
      rw [sm_0, Int.sub_zero] at this
      exact this
    · intro i i0 i1 ih
      have hr := row_in ok i0 (by omega)
      have hp := ok.1
      have h6 := (ok.2.2.2.1 (rowV (vm μ) i) hr.1.1 (by omega)).2.2
      refine vc_X11_gainOf_41 ?_
      rw [k220 i i0 (by omega), k221 i i0 (by omega), of_6 hr.1.1 (by omega)]
      rw [sm_s i0] at ih
      refine ⟨rr (by omega), rr (by omega), fun q => absurd q (by omega), fun _ => ⟨by omega, ⟨rfl, hb.1, by omega, by omega⟩, rr (by omega), by omega, ?_⟩⟩
      rw [show ∀ a b c : Int, a - (b + c) = a - b - c from fun a b c => by omega] at ih
      exact ih
    · refine vc_X11_gainOf_41 ⟨rr (by omega), rr (by omega), fun _ => ?_, fun q => absurd (Int.le_refl _) q⟩
      rw [← gain_by ok mo m0.1 m0.2, hmo]
      exact hR
  have hP2 : P_X11_of 201 2 μ := ⟨rfl, hb.1, by omega, by omega⟩
  refine vc_X11_gainOf_0 ?_
  rw [k34]
  refine ⟨rr (by omega), rr (by omega), fun c => ⟨hP2, by rw [e2]; exact rr (by omega), by omega, go _ (by omega)⟩, fun c => ⟨hP2, by rw [e2]; exact rr (by omega), by omega, go _ (by omega)⟩⟩
theorem ct_X11_gainOf : Ct mX11_gainOf 1 21 0 0 (nrmS S_X11_gainOf) := by
  refine ct_vm (own := RX11) (by decide +kernel) rfl ?_ ?_
  · intro as μ Q hS
    unfold S_X11_gainOf at hS
    split at hS
    · exact Nat.le_of_ble_eq_true rfl
    · exact hS.elim
  · intro as μ R hS
    unfold S_X11_gainOf at hS
    split at hS
    · exact body_X11_gainOf hS.1 hS.2
    · exact hS.elim
def P_X11_gain (o n k : Int) (μ : Mem) : Prop := o = 201 ∧ SOk (stM μ) ∧ r32 n ∧ r32 k
def Q_X11_gain (_ n k : Int) (μ μ' : Mem) (r : Int) : Prop := AskM μ μ' ∧ r = onT (stM μ).1 n (-4000000000000000000) (gainT k)
def S_X11_gain : S0t := fun as μ Q => match as with
  | [(2, x0), (0, x1), (0, x2)] => P_X11_gain x0 x1 x2 μ ∧ ∀ (μ' : Mem) (r : Int), Q_X11_gain x0 x1 x2 μ μ' r → Q μ' (some (kL r))
  | _ => False
theorem mono_X11_gain : Mono S_X11_gain := by
  intro as μ Q Q' h hS
  unfold S_X11_gain at hS ⊢
  split at hS
  · exact ⟨hS.1, fun μ' r q => h _ _ (hS.2 _ _ q)⟩
  · exact hS.elim
def iX11_gain : Inf := (kX11_gain, fTX11, pTX11, cTX11, lTX11, sTX11, [(162, 1, 3, 0, S_X11_isIn), (370, 0, 1, 11, S_X11_ordersOf), (373, 0, 1, 11, S_X11_gainOf)])
theorem ok_X11_gain : infOK iX11_gain mX11_gain RX11 5 112 := ⟨kkX11_gain, fTX11_ok, pTX11_ok _, cTX11_ok, lTX11_ok, sTX11_ok, c_cons ⟨mX11_isIn, 0, 0, ct_X11_isIn, mmX11_isIn, stX11_isIn, lkX11_162, ⟨by decide, by decide⟩, mono_X11_isIn⟩ (c_cons ⟨mX11_ordersOf, 4, 91, ct_X11_ordersOf, mmX11_ordersOf, vvX11_ordersOf, lkX11_370, ⟨by decide, by decide⟩, ⟨_, _, rfl⟩, by decide, mono_X11_ordersOf⟩ (c_cons ⟨mX11_gainOf, 1, 21, ct_X11_gainOf, mmX11_gainOf, vvX11_gainOf, lkX11_373, ⟨by decide, by decide⟩, ⟨_, _, rfl⟩, by decide, mono_X11_gainOf⟩ (c_nil)))⟩
theorem mt_X11_gain : mtOK [] RX11 5 112 := mt_nil
abbrev V_X11_gain (R : Mem → Option AV → Prop) (pc : Nat) (lc : List (Nat × AV)) (μ : Mem) : Prop := VM mX11_gain RX11 5 112 R pc lc [] μ
set_option maxRecDepth 20000 in
theorem vc_X11_gain_0 {R : Mem → Option AV → Prop} {n k : Int} {μ : Mem} (H : P_X11_isIn k 0 64 μ ∧ r32 (F_X11_isIn k 0 64 μ) ∧ (((F_X11_isIn k 0 64 μ) = 0) → R μ (some (kL (-4000000000000000000)))) ∧ (¬ ((F_X11_isIn k 0 64 μ) = 0) → P_X11_ordersOf 201 n μ ∧ (∀ (μ1 : Mem) (rv2 : Int), Q_X11_ordersOf 201 n μ μ1 rv2 → r32 rv2 ∧ ((rv2 = 0) → R μ1 (some (kL (-4000000000000000000)))) ∧ (¬ (rv2 = 0) → P_X11_gainOf 201 k μ1 ∧ R μ1 (some (kL (F_X11_gainOf 201 k μ1))))))) : V_X11_gain R 0 [(0, kR 201), (1, kI n), (2, kI k)] μ := by
  refine vm_step2 mt_X11_gain ok_X11_gain [] 1000 ?_
  show P_X11_isIn k 0 64 μ ∧ r32 (F_X11_isIn k 0 64 μ) ∧ (((F_X11_isIn k 0 64 μ) = 0) → R μ (some (kL (-4000000000000000000)))) ∧ (¬ ((F_X11_isIn k 0 64 μ) = 0) → isC 201 11 ∧ P_X11_ordersOf 201 n μ ∧ (∀ (μ1 : Mem) (rv2 : Int), Q_X11_ordersOf 201 n μ μ1 rv2 → r32 rv2 ∧ ((rv2 = 0) → R μ1 (some (kL (-4000000000000000000)))) ∧ (¬ (rv2 = 0) → isC 201 11 ∧ P_X11_gainOf 201 k μ1 ∧ R μ1 (some (kL (F_X11_gainOf 201 k μ1))))))
  exact ⟨H.1, ⟨H.2.1, fun hc5 => (H.2.2.1 hc5), fun hc5 => ⟨c_201, (H.2.2.2 hc5).1, fun μ1 rv2 hq3 => ⟨((H.2.2.2 hc5).2 μ1 rv2 hq3).1, fun hc4 => (((H.2.2.2 hc5).2 μ1 rv2 hq3).2.1 hc4), fun hc4 => ⟨c_201, (((H.2.2.2 hc5).2 μ1 rv2 hq3).2.2 hc4).1, (((H.2.2.2 hc5).2 μ1 rv2 hq3).2.2 hc4).2⟩⟩⟩⟩⟩
theorem body_X11_gain {o n k : Int} {μ : Mem} {R : Mem → Option AV → Prop} (h : P_X11_gain o n k μ) (hR : ∀ (μ' : Mem) (r : Int), Q_X11_gain o n k μ μ' r → R μ' (some (kL r))) : V_X11_gain R 0 [(0, kR o), (1, kI n), (2, kI k)] μ := by
  obtain ⟨rfl, hs, r_n, r_k⟩ := h
  have ir := isIn_r (x := k) (lo := 0) (hi := 64) (μ := μ)
  have bad : ¬ (0 ≤ k ∧ k ≤ 64) → Q_X11_gain 201 n k μ μ (-4000000000000000000) := fun q => by
    refine ⟨AskM_0 μ, ?_⟩
    by_cases c : 0 ≤ n ∧ n < μ 202 0
    · rw [onM_yes c]
      unfold gainT
      rw [if_neg q]
    · exact (onM_no c).symm
  refine vc_X11_gain_0 ⟨⟨r_k, rr (by omega), rr (by omega)⟩, rr (by omega), fun d => hR μ _ (bad (fun q => isIn_1.mpr q d)), fun d => ⟨⟨rfl, hs, r_n⟩, fun m rv q => ?_⟩⟩
  have dk := isIn_1.mp d
  obtain ⟨q1, q3, q4⟩ := q
  have ask : AskM μ m := fun z hz => q1 z (by omega) (by omega) (by omega) (by omega)
  by_cases c : 0 ≤ n ∧ n < μ 202 0
  · obtain ⟨rfl, hb, hv, hl⟩ := q4 c
    have ok := hb.v
    have hp := hb.p
    have cb := cntV_bd (vm m)
    have fin : ∀ x : Int, x = (gainT k) (vm m) → R m (some (kL x)) := fun x hx => hR m x ⟨ask, by rw [hx, onM_yes c, ← hv]⟩
    refine ⟨rr (by omega), fun q => absurd q (by omega), fun _ => ?_⟩
    unfold gainT at fin
    rw [if_pos dk] at fin
    exact ⟨⟨rfl, hb, hl, dk⟩, fin _ rfl⟩
  · have e := q3 c
    subst e
    exact ⟨rr (by omega), fun _ => hR m _ ⟨ask, (onM_no c).symm⟩, fun q => absurd rfl q⟩
theorem ct_X11_gain : Ct mX11_gain 5 112 0 0 (nrmS S_X11_gain) := by
  refine ct_vm (own := RX11) (by decide +kernel) rfl ?_ ?_
  · intro as μ Q hS
    unfold S_X11_gain at hS
    split at hS
    · exact Nat.le_of_ble_eq_true rfl
    · exact hS.elim
  · intro as μ R hS
    unfold S_X11_gain at hS
    split at hS
    · exact body_X11_gain hS.1 hS.2
    · exact hS.elim
def P_X11_leave (o n : Int) (μ : Mem) : Prop := o = 201 ∧ SOk (stM μ) ∧ r32 n
def Q_X11_leave (_ n : Int) (μ μ' : Mem) (r : Int) : Prop := AskM μ μ' ∧ r = onT (stM μ).1 n (-1) (leaveT)
def S_X11_leave : S0t := fun as μ Q => match as with
  | [(2, x0), (0, x1)] => P_X11_leave x0 x1 μ ∧ ∀ (μ' : Mem) (r : Int), Q_X11_leave x0 x1 μ μ' r → Q μ' (some (kI r))
  | _ => False
theorem mono_X11_leave : Mono S_X11_leave := by
  intro as μ Q Q' h hS
  unfold S_X11_leave at hS ⊢
  split at hS
  · exact ⟨hS.1, fun μ' r q => h _ _ (hS.2 _ _ q)⟩
  · exact hS.elim
def iX11_leave : Inf := (kX11_leave, fTX11, pTX11, cTX11, lTX11, sTX11, [(370, 0, 1, 11, S_X11_ordersOf), (373, 0, 1, 11, S_X11_gainOf)])
theorem ok_X11_leave : infOK iX11_leave mX11_leave RX11 5 112 := ⟨kkX11_leave, fTX11_ok, pTX11_ok _, cTX11_ok, lTX11_ok, sTX11_ok, c_cons ⟨mX11_ordersOf, 4, 91, ct_X11_ordersOf, mmX11_ordersOf, vvX11_ordersOf, lkX11_370, ⟨by decide, by decide⟩, ⟨_, _, rfl⟩, by decide, mono_X11_ordersOf⟩ (c_cons ⟨mX11_gainOf, 1, 21, ct_X11_gainOf, mmX11_gainOf, vvX11_gainOf, lkX11_373, ⟨by decide, by decide⟩, ⟨_, _, rfl⟩, by decide, mono_X11_gainOf⟩ (c_nil))⟩
theorem mt_X11_leave : mtOK [] RX11 5 112 := mt_nil
abbrev V_X11_leave (R : Mem → Option AV → Prop) (pc : Nat) (lc : List (Nat × AV)) (μ : Mem) : Prop := VM mX11_leave RX11 5 112 R pc lc [] μ
set_option maxRecDepth 20000 in
theorem vc_X11_leave_0 {R : Mem → Option AV → Prop} {n : Int} {μ : Mem} (H : P_X11_ordersOf 201 n μ ∧ (∀ (μ1 : Mem) (rv2 : Int), Q_X11_ordersOf 201 n μ μ1 rv2 → r32 rv2 ∧ ((¬ rv2 = 0) → V_X11_leave R 14 [(0, kR 201), (2, kI 0), (3, kI 1)] μ1) ∧ (¬ (¬ rv2 = 0) → R μ1 (some (kI (-1)))))) : V_X11_leave R 0 [(0, kR 201), (1, kI n)] μ := by
  refine vm_step2 mt_X11_leave ok_X11_leave [(14, [0, 2, 3])] 1000 ?_
  show isC 201 11 ∧ P_X11_ordersOf 201 n μ ∧ (∀ (μ1 : Mem) (rv2 : Int), Q_X11_ordersOf 201 n μ μ1 rv2 → r32 rv2 ∧ ((¬ rv2 = 0) → V_X11_leave R 14 [(0, kR 201), (2, kI 0), (3, kI 1)] μ1) ∧ (¬ (¬ rv2 = 0) → R μ1 (some (kI (-1)))))
  exact ⟨c_201, H.1, fun μ1 rv2 hq3 => ⟨(H.2 μ1 rv2 hq3).1, fun hc4 => ((H.2 μ1 rv2 hq3).2.1 hc4), fun hc4 => ((H.2 μ1 rv2 hq3).2.2 hc4)⟩⟩
set_option maxRecDepth 20000 in
theorem vc_X11_leave_14 {R : Mem → Option AV → Prop} {best i : Int} {μ : Mem} (H : r32 i ∧ r32 (μ 201 34) ∧ (((μ 201 34) < i) → R μ (some (kI best))) ∧ (¬ ((μ 201 34) < i) → P_X11_gainOf 201 i μ ∧ P_X11_gainOf 201 best μ ∧ r64 (F_X11_gainOf 201 i μ) ∧ r64 (F_X11_gainOf 201 best μ) ∧ (((F_X11_gainOf 201 i μ) ≤ (F_X11_gainOf 201 best μ)) → V_X11_leave R 14 [(0, kR 201), (2, kI best), (3, kI (i + 1))] μ) ∧ (¬ ((F_X11_gainOf 201 i μ) ≤ (F_X11_gainOf 201 best μ)) → V_X11_leave R 14 [(0, kR 201), (2, kI i), (3, kI (i + 1))] μ))) : V_X11_leave R 14 [(0, kR 201), (2, kI best), (3, kI i)] μ := by
  refine vm_step2 mt_X11_leave ok_X11_leave [(14, [0, 2, 3])] 1000 ?_
  show isC 201 11 ∧ (r32 i ∧ r32 (μ 201 34)) ∧ (((μ 201 34) < i) → R μ (some (kI best))) ∧ (¬ ((μ 201 34) < i) → isC 201 11 ∧ P_X11_gainOf 201 i μ ∧ isC 201 11 ∧ P_X11_gainOf 201 best μ ∧ (r64 (F_X11_gainOf 201 i μ) ∧ r64 (F_X11_gainOf 201 best μ)) ∧ r32 (lcm3 (F_X11_gainOf 201 i μ) (F_X11_gainOf 201 best μ)) ∧ ((lcm3 (F_X11_gainOf 201 i μ) (F_X11_gainOf 201 best μ) ≤ 0) → V_X11_leave R 14 [(0, kR 201), (2, kI best), (3, kI (i + 1))] μ) ∧ (¬ (lcm3 (F_X11_gainOf 201 i μ) (F_X11_gainOf 201 best μ) ≤ 0) → V_X11_leave R 14 [(0, kR 201), (2, kI i), (3, kI (i + 1))] μ))
  exact ⟨c_201, ⟨⟨H.1, H.2.1⟩, fun hc6 => (H.2.2.1 hc6), fun hc6 => ⟨c_201, (H.2.2.2 hc6).1, ⟨c_201, (H.2.2.2 hc6).2.1, ⟨⟨(H.2.2.2 hc6).2.2.1, (H.2.2.2 hc6).2.2.2.1⟩, lcm3_r _ _, fun hc5 => ((H.2.2.2 hc6).2.2.2.2.1 (lcm_le.mp hc5)), fun hc5 => ((H.2.2.2 hc6).2.2.2.2.2 (fun q => hc5 (lcm_le.mpr q)))⟩⟩⟩⟩⟩
theorem body_X11_leave {o n : Int} {μ : Mem} {R : Mem → Option AV → Prop} (h : P_X11_leave o n μ) (hR : ∀ (μ' : Mem) (r : Int), Q_X11_leave o n μ μ' r → R μ' (some (kI r))) : V_X11_leave R 0 [(0, kR o), (1, kI n)] μ := by
  obtain ⟨rfl, hs, r_n⟩ := h
  refine vc_X11_leave_0 ⟨⟨rfl, hs, r_n⟩, fun m rv q => ?_⟩
  obtain ⟨q1, q3, q4⟩ := q
  have ask : AskM μ m := fun z hz => q1 z (by omega) (by omega) (by omega) (by omega)
  by_cases c : 0 ≤ n ∧ n < μ 202 0
  · obtain ⟨rfl, hb, hv, hl⟩ := q4 c
    have ok := hb.v
    have hp := hb.p
    have cb := cntV_bd (vm m)
    have fin : ∀ x : Int, x = leaveT (vm m) → R m (some (kI x)) := fun x hx => hR m x ⟨ask, by rw [hx, onM_yes c, ← hv]⟩
    refine ⟨rr (by omega), fun _ => ?_, fun q => absurd (show ¬ (1 : Int) = 0 by omega) q⟩
    unfold leaveT at fin
    have e34 := hl.1
    have gb : ∀ i : Int, 0 ≤ i → i ≤ cntV (vm m) → r64 (gainV (vm m) i) := fun i i0 i1 => by
      have := gainV_bd ok i0 i1 (by omega)
      exact rl (by omega)
    have key := up_ind (P := fun i => V_X11_leave R 14 [(0, kR 201), (2, kI (maxAt (gainV (vm m)) i)), (3, kI (i + 1))] m) (lo := 0) (hi := cntV (vm m)) ?_ ?_
    · exact key 0 (by omega) cb.1
    · intro i i0 i1 ih
      have mb := maxAt_bd (f := gainV (vm m)) i0
      have est := maxAt_s (f := gainV (vm m)) i0
      refine vc_X11_leave_14 ?_
      unfold F_X11_gainOf
      rw [e34, show min (i + 1) (cntV (vm m)) = i + 1 by omega, show min (maxAt (gainV (vm m)) i) (cntV (vm m)) = maxAt (gainV (vm m)) i by omega]
      refine ⟨rr (by omega), rr (by omega), fun q => absurd q (by omega), fun _ => ⟨⟨rfl, hb, hl, by omega, by omega⟩, ⟨rfl, hb, hl, by omega, by omega⟩, gb _ (by omega) (by omega), gb _ (by omega) (by omega), fun q => ?_, fun q => ?_⟩⟩
      · rw [est, if_neg (by omega)] at ih; exact ih
      · rw [est, if_pos (by omega)] at ih; exact ih
    · refine vc_X11_leave_14 ?_
      rw [e34]
      exact ⟨rr (by omega), rr (by omega), fun _ => fin _ rfl, fun q => absurd (by omega) q⟩
  · have e := q3 c
    subst e
    exact ⟨rr (by omega), fun q => absurd rfl q, fun _ => hR m _ ⟨ask, (onM_no c).symm⟩⟩
theorem ct_X11_leave : Ct mX11_leave 5 112 0 0 (nrmS S_X11_leave) := by
  refine ct_vm (own := RX11) (by decide +kernel) rfl ?_ ?_
  · intro as μ Q hS
    unfold S_X11_leave at hS
    split at hS
    · exact Nat.le_of_ble_eq_true rfl
    · exact hS.elim
  · intro as μ R hS
    unfold S_X11_leave at hS
    split at hS
    · exact body_X11_leave hS.1 hS.2
    · exact hS.elim
def P_X11_draws (o n : Int) (_ : Mem) : Prop := o = 201 ∧ 1 ≤ n ∧ n ≤ 1000
def Q_X11_draws (_ n : Int) (μ μ' : Mem) (r : Int) : Prop := μ' 201 51 = drawV (μ 201 51) ∧ r = numV (drawV (μ 201 51)) % n ∧ FldM μ μ' [51] ∧ ∀ z : Int, z ≠ 201 → μ' z = μ z
def S_X11_draws : S0t := fun as μ Q => match as with
  | [(2, x0), (0, x1)] => P_X11_draws x0 x1 μ ∧ ∀ (μ' : Mem) (r : Int), Q_X11_draws x0 x1 μ μ' r → Q μ' (some (kI r))
  | _ => False
theorem mono_X11_draws : Mono S_X11_draws := by
  intro as μ Q Q' h hS
  unfold S_X11_draws at hS ⊢
  split at hS
  · exact ⟨hS.1, fun μ' r q => h _ _ (hS.2 _ _ q)⟩
  · exact hS.elim
def iX11_draws : Inf := (kX11_draws, fTX11, pTX11, cTX11, lTX11, sTX11, [])
theorem ok_X11_draws : infOK iX11_draws mX11_draws RX11 0 0 := ⟨kkX11_draws, fTX11_ok, pTX11_ok _, cTX11_ok, lTX11_ok, sTX11_ok, c_nil⟩
theorem mt_X11_draws : mtOK [] RX11 0 0 := mt_nil
abbrev V_X11_draws (R : Mem → Option AV → Prop) (pc : Nat) (lc : List (Nat × AV)) (μ : Mem) : Prop := VM mX11_draws RX11 0 0 R pc lc [] μ
set_option maxRecDepth 20000 in
theorem vc_X11_draws_0 {R : Mem → Option AV → Prop} {n : Int} {μ : Mem} (H : V_X11_draws R 16 [(0, kR 201), (1, kI n)] (updm μ 201 51 (((μ 201 51) * 1103515245) + 12345))) : V_X11_draws R 0 [(0, kR 201), (1, kI n)] μ := by
  refine vm_step2 mt_X11_draws ok_X11_draws [(16, [0, 1])] 1000 ?_
  show isC 201 11 ∧ isC 201 11 ∧ 0 = 0 ∧ True ∧ V_X11_draws R 16 [(0, kR 201), (1, kI n)] (updm μ 201 51 (((μ 201 51) * 1103515245) + 12345))
  exact ⟨c_201, ⟨c_201, rfl, trivial, H⟩⟩
set_option maxRecDepth 20000 in
theorem vc_X11_draws_16 {R : Mem → Option AV → Prop} {n : Int} {μ : Mem} (H : (r32 (band (bshr (μ 201 51) 16) 32767) ∧ r32 n ∧ n ≠ 0) ∧ R μ (some (kI (Int.tmod (band (bshr (μ 201 51) 16) 32767) n)))) : V_X11_draws R 16 [(0, kR 201), (1, kI n)] μ := by
  refine vm_step2 mt_X11_draws ok_X11_draws [(16, [0, 1])] 1000 ?_
  show isC 201 11 ∧ (r32 (band (bshr (μ 201 51) 16) 32767) ∧ r32 n ∧ n ≠ 0) ∧ R μ (some (kI (Int.tmod (band (bshr (μ 201 51) 16) 32767) n)))
  exact ⟨c_201, ⟨H.1, H.2⟩⟩
theorem body_X11_draws {o n : Int} {μ : Mem} {R : Mem → Option AV → Prop} (h : P_X11_draws o n μ) (hR : ∀ (μ' : Mem) (r : Int), Q_X11_draws o n μ μ' r → R μ' (some (kI r))) : V_X11_draws R 0 [(0, kR o), (1, kI n)] μ := by
  obtain ⟨rfl, hn⟩ := h
  refine vc_X11_draws_0 ?_
  obtain ⟨m, em⟩ : ∃ x, x = updm μ 201 51 (μ 201 51 * 1103515245 + 12345) := ⟨_, rfl⟩
  rw [← em]
  have g : m 201 51 = drawV (μ 201 51) := by rw [em, ru_eq, r1_eq]; rfl
  have nb := numV_bd (drawV (μ 201 51))
  refine vc_X11_draws_16 ?_
  rw [g]
  have en : band (bshr (drawV (μ 201 51)) 16) 32767 = numV (drawV (μ 201 51)) := rfl
  rw [en, Int.tmod_eq_emod_of_nonneg nb.1]
  refine ⟨⟨rr (by omega), rr (by omega), by omega⟩, hR m _ ⟨g, rfl, fun f hf => ?_, fun z hz => by rw [em, ru_ne hz]⟩⟩
  have q : f ≠ 51 := fun q => hf (by simp [q])
  rw [em, ru_eq, r1_ne q]
theorem ct_X11_draws : Ct mX11_draws 0 0 0 0 (nrmS S_X11_draws) := by
  refine ct_vm (own := RX11) (by decide +kernel) rfl ?_ ?_
  · intro as μ Q hS
    unfold S_X11_draws at hS
    split at hS
    · exact Nat.le_of_ble_eq_true rfl
    · exact hS.elim
  · intro as μ R hS
    unfold S_X11_draws at hS
    split at hS
    · exact body_X11_draws hS.1 hS.2
    · exact hS.elim
def P_X11_run (o n a k : Int) (μ : Mem) : Prop := o = 201 ∧ SOk (stM μ) ∧ r32 n ∧ r32 a ∧ r32 k
def Q_X11_run (_ n a k : Int) (μ μ' : Mem) (r : Int) : Prop := ChgM (runS (stM μ) n a k) μ μ' r
def S_X11_run : S0t := fun as μ Q => match as with
  | [(2, x0), (0, x1), (0, x2), (0, x3)] => P_X11_run x0 x1 x2 x3 μ ∧ ∀ (μ' : Mem) (r : Int), Q_X11_run x0 x1 x2 x3 μ μ' r → Q μ' (some (kI r))
  | _ => False
theorem mono_X11_run : Mono S_X11_run := by
  intro as μ Q Q' h hS
  unfold S_X11_run at hS ⊢
  split at hS
  · exact ⟨hS.1, fun μ' r q => h _ _ (hS.2 _ _ q)⟩
  · exact hS.elim
def iX11_run : Inf := (kX11_run, fTX11, pTX11, cTX11, lTX11, sTX11, [(162, 1, 3, 0, S_X11_isIn), (370, 0, 1, 11, S_X11_ordersOf), (228, 0, 0, 11, S_X11_total), (452, 0, 1, 11, S_X11_draws), (209, 0, 1, 11, S_X11_of)])
theorem ok_X11_run : infOK iX11_run mX11_run RX11 5 112 := ⟨kkX11_run, fTX11_ok, pTX11_ok _, cTX11_ok, lTX11_ok, sTX11_ok, c_cons ⟨mX11_isIn, 0, 0, ct_X11_isIn, mmX11_isIn, stX11_isIn, lkX11_162, ⟨by decide, by decide⟩, mono_X11_isIn⟩ (c_cons ⟨mX11_ordersOf, 4, 91, ct_X11_ordersOf, mmX11_ordersOf, vvX11_ordersOf, lkX11_370, ⟨by decide, by decide⟩, ⟨_, _, rfl⟩, by decide, mono_X11_ordersOf⟩ (c_cons ⟨mX11_total, 1, 21, ct_X11_total, mmX11_total, vvX11_total, lkX11_228, ⟨by decide, by decide⟩, ⟨_, _, rfl⟩, by decide, mono_X11_total⟩ (c_cons ⟨mX11_draws, 0, 0, ct_X11_draws, mmX11_draws, vvX11_draws, lkX11_452, ⟨by decide, by decide⟩, ⟨_, _, rfl⟩, by decide, mono_X11_draws⟩ (c_cons ⟨mX11_of, 0, 0, ct_X11_of, mmX11_of, vvX11_of, lkX11_209, ⟨by decide, by decide⟩, ⟨_, _, rfl⟩, by decide, mono_X11_of⟩ (c_nil)))))⟩
theorem mt_X11_run : mtOK [] RX11 5 112 := mt_nil
abbrev V_X11_run (R : Mem → Option AV → Prop) (pc : Nat) (lc : List (Nat × AV)) (μ : Mem) : Prop := VM mX11_run RX11 5 112 R pc lc [] μ
set_option maxRecDepth 20000 in
theorem vc_X11_run_0 {R : Mem → Option AV → Prop} {n a k : Int} {μ : Mem} (H : P_X11_isIn a 0 64 μ ∧ r32 (F_X11_isIn a 0 64 μ) ∧ (((F_X11_isIn a 0 64 μ) = 0) → R μ (some (kI (-1)))) ∧ (¬ ((F_X11_isIn a 0 64 μ) = 0) → P_X11_ordersOf 201 n μ ∧ (∀ (μ1 : Mem) (rv2 : Int), Q_X11_ordersOf 201 n μ μ1 rv2 → r32 rv2 ∧ ((¬ rv2 = 0) → V_X11_run R 25 [(0, kR 201), (2, kI a)] (updm μ1 201 51 k)) ∧ (¬ (¬ rv2 = 0) → R μ1 (some (kI (-1))))))) : V_X11_run R 0 [(0, kR 201), (1, kI n), (2, kI a), (3, kI k)] μ := by
  refine vm_step2 mt_X11_run ok_X11_run [(25, [0, 2]), (38, [0, 2, 4, 5]), (84, [0, 2, 5, 6, 7, 8, 9]), (182, [0, 6, 7, 8]), (191, [0, 6, 7, 8]), (200, [0, 6, 8]), (209, [0, 6]), (219, [6])] 1000 ?_
  show P_X11_isIn a 0 64 μ ∧ r32 (F_X11_isIn a 0 64 μ) ∧ (((F_X11_isIn a 0 64 μ) = 0) → R μ (some (kI (-1)))) ∧ (¬ ((F_X11_isIn a 0 64 μ) = 0) → isC 201 11 ∧ P_X11_ordersOf 201 n μ ∧ (∀ (μ1 : Mem) (rv2 : Int), Q_X11_ordersOf 201 n μ μ1 rv2 → r32 rv2 ∧ ((¬ rv2 = 0) → isC 201 11 ∧ 0 = 0 ∧ True ∧ V_X11_run R 25 [(0, kR 201), (2, kI a)] (updm μ1 201 51 k)) ∧ (¬ (¬ rv2 = 0) → R μ1 (some (kI (-1))))))
  exact ⟨H.1, ⟨H.2.1, fun hc5 => (H.2.2.1 hc5), fun hc5 => ⟨c_201, (H.2.2.2 hc5).1, fun μ1 rv2 hq3 => ⟨((H.2.2.2 hc5).2 μ1 rv2 hq3).1, fun hc4 => ⟨c_201, rfl, trivial, (((H.2.2.2 hc5).2 μ1 rv2 hq3).2.1 hc4)⟩, fun hc4 => (((H.2.2.2 hc5).2 μ1 rv2 hq3).2.2 hc4)⟩⟩⟩⟩
set_option maxRecDepth 20000 in
theorem vc_X11_run_25 {R : Mem → Option AV → Prop} {a : Int} {μ : Mem} (H : P_X11_total 201 μ ∧ P_X11_draws 201 (F_X11_total 201 μ) μ ∧ (∀ (μ6 : Mem) (rv7 : Int), Q_X11_draws 201 (F_X11_total 201 μ) μ μ6 rv7 → V_X11_run R 38 [(0, kR 201), (2, kI a), (4, kI rv7), (5, kI 0)] μ6)) : V_X11_run R 25 [(0, kR 201), (2, kI a)] μ := by
  refine vm_step2 mt_X11_run ok_X11_run [(25, [0, 2]), (38, [0, 2, 4, 5]), (84, [0, 2, 5, 6, 7, 8, 9]), (182, [0, 6, 7, 8]), (191, [0, 6, 7, 8]), (200, [0, 6, 8]), (209, [0, 6]), (219, [6])] 1000 ?_
  show isC 201 11 ∧ P_X11_total 201 μ ∧ isC 201 11 ∧ P_X11_draws 201 (F_X11_total 201 μ) μ ∧ (∀ (μ6 : Mem) (rv7 : Int), Q_X11_draws 201 (F_X11_total 201 μ) μ μ6 rv7 → V_X11_run R 38 [(0, kR 201), (2, kI a), (4, kI rv7), (5, kI 0)] μ6)
  exact ⟨c_201, H.1, ⟨c_201, H.2.1, fun μ6 rv7 hq8 => (H.2.2 μ6 rv7 hq8)⟩⟩
set_option maxRecDepth 20000 in
theorem vc_X11_run_38 {R : Mem → Option AV → Prop} {a lf li : Int} {μ : Mem} (H : P_X11_of 201 (10 + li) μ ∧ r32 lf ∧ r32 (F_X11_of 201 (10 + li) μ) ∧ ((lf < (F_X11_of 201 (10 + li) μ)) → V_X11_run R 84 [(0, kR 201), (2, kI a), (5, kI li), (6, kI 0), (7, kI 0), (8, kI 0), (9, kI 0)] μ) ∧ (¬ (lf < (F_X11_of 201 (10 + li) μ)) → P_X11_of 201 (10 + li) μ ∧ V_X11_run R 38 [(0, kR 201), (2, kI a), (4, kI (lf - (F_X11_of 201 (10 + li) μ))), (5, kI (li + 1))] μ)) : V_X11_run R 38 [(0, kR 201), (2, kI a), (4, kI lf), (5, kI li)] μ := by
  refine vm_step2 mt_X11_run ok_X11_run [(25, [0, 2]), (38, [0, 2, 4, 5]), (84, [0, 2, 5, 6, 7, 8, 9]), (182, [0, 6, 7, 8]), (191, [0, 6, 7, 8]), (200, [0, 6, 8]), (209, [0, 6]), (219, [6])] 1000 ?_
  show isC 201 11 ∧ P_X11_of 201 (10 + li) μ ∧ (r32 lf ∧ r32 (F_X11_of 201 (10 + li) μ)) ∧ ((lf < (F_X11_of 201 (10 + li) μ)) → V_X11_run R 84 [(0, kR 201), (2, kI a), (5, kI li), (6, kI 0), (7, kI 0), (8, kI 0), (9, kI 0)] μ) ∧ (¬ (lf < (F_X11_of 201 (10 + li) μ)) → isC 201 11 ∧ P_X11_of 201 (10 + li) μ ∧ V_X11_run R 38 [(0, kR 201), (2, kI a), (4, kI (lf - (F_X11_of 201 (10 + li) μ))), (5, kI (li + 1))] μ)
  exact ⟨c_201, H.1, ⟨⟨H.2.1, H.2.2.1⟩, fun hc9 => (H.2.2.2.1 hc9), fun hc9 => ⟨c_201, (H.2.2.2.2 hc9).1, (H.2.2.2.2 hc9).2⟩⟩⟩
set_option maxRecDepth 20000 in
theorem vc_X11_run_84 {R : Mem → Option AV → Prop} {a li fo mi mi2 i : Int} {μ : Mem} (H : r32 i ∧ r32 a ∧ ((a ≤ i) → V_X11_run R 182 [(0, kR 201), (6, kI fo), (7, kI mi), (8, kI mi2)] (updm μ 202 5 li)) ∧ (¬ (a ≤ i) → r32 i ∧ r32 (μ 201 34) ∧ (((μ 201 34) ≤ i) → V_X11_run R 182 [(0, kR 201), (6, kI fo), (7, kI mi), (8, kI mi2)] (updm μ 202 5 li)) ∧ (¬ ((μ 201 34) ≤ i) → r32 fo ∧ ((¬ fo = 0) → V_X11_run R 182 [(0, kR 201), (6, kI fo), (7, kI mi), (8, kI mi2)] (updm μ 202 5 li)) ∧ (¬ (¬ fo = 0) → (0 ≤ i ∧ i < 64) ∧ P_X11_of 201 (30 + (μ 220 i)) μ ∧ (0 ≤ i ∧ i < 64) ∧ r32 (μ 220 i) ∧ r32 li ∧ (((μ 220 i) = li) → P_X11_draws 201 12 μ ∧ (∀ (μ10 : Mem) (rv11 : Int), Q_X11_draws 201 12 μ μ10 rv11 → P_X11_of 201 (20 + li) μ10 ∧ r32 rv11 ∧ r32 (F_X11_of 201 (20 + li) μ10) ∧ (((F_X11_of 201 (20 + li) μ10) ≤ rv11) → V_X11_run R 84 [(0, kR 201), (2, kI a), (5, kI li), (6, kI fo), (7, kI (mi + (F_X11_of 201 (30 + (μ 220 i)) μ))), (8, kI (mi2 + 1)), (9, kI (i + 1))] μ10) ∧ (¬ ((F_X11_of 201 (20 + li) μ10) ≤ rv11) → V_X11_run R 84 [(0, kR 201), (2, kI a), (5, kI li), (6, kI (i + 1)), (7, kI (mi + (F_X11_of 201 (30 + (μ 220 i)) μ))), (8, kI mi2), (9, kI (i + 1))] μ10))) ∧ (¬ ((μ 220 i) = li) → V_X11_run R 84 [(0, kR 201), (2, kI a), (5, kI li), (6, kI fo), (7, kI (mi + (F_X11_of 201 (30 + (μ 220 i)) μ))), (8, kI mi2), (9, kI (i + 1))] μ))))) : V_X11_run R 84 [(0, kR 201), (2, kI a), (5, kI li), (6, kI fo), (7, kI mi), (8, kI mi2), (9, kI i)] μ := by
  refine vm_step2 mt_X11_run ok_X11_run [(25, [0, 2]), (38, [0, 2, 4, 5]), (84, [0, 2, 5, 6, 7, 8, 9]), (182, [0, 6, 7, 8]), (191, [0, 6, 7, 8]), (200, [0, 6, 8]), (209, [0, 6]), (219, [6])] 1000 ?_
  show (r32 i ∧ r32 a) ∧ ((a ≤ i) → isC 201 11 ∧ inA 202 0 (5 : Int) ∧ V_X11_run R 182 [(0, kR 201), (6, kI fo), (7, kI mi), (8, kI mi2)] (updm μ 202 5 li)) ∧ (¬ (a ≤ i) → isC 201 11 ∧ (r32 i ∧ r32 (μ 201 34)) ∧ (((μ 201 34) ≤ i) → isC 201 11 ∧ inA 202 0 (5 : Int) ∧ V_X11_run R 182 [(0, kR 201), (6, kI fo), (7, kI mi), (8, kI mi2)] (updm μ 202 5 li)) ∧ (¬ ((μ 201 34) ≤ i) → r32 fo ∧ ((¬ fo = 0) → isC 201 11 ∧ inA 202 0 (5 : Int) ∧ V_X11_run R 182 [(0, kR 201), (6, kI fo), (7, kI mi), (8, kI mi2)] (updm μ 202 5 li)) ∧ (¬ (¬ fo = 0) → isC 201 11 ∧ inA 220 0 i ∧ isC 201 11 ∧ P_X11_of 201 (30 + (μ 220 i)) μ ∧ isC 201 11 ∧ inA 220 0 i ∧ (r32 (μ 220 i) ∧ r32 li) ∧ (((μ 220 i) = li) → isC 201 11 ∧ P_X11_draws 201 12 μ ∧ (∀ (μ10 : Mem) (rv11 : Int), Q_X11_draws 201 12 μ μ10 rv11 → isC 201 11 ∧ P_X11_of 201 (20 + li) μ10 ∧ (r32 rv11 ∧ r32 (F_X11_of 201 (20 + li) μ10)) ∧ (((F_X11_of 201 (20 + li) μ10) ≤ rv11) → V_X11_run R 84 [(0, kR 201), (2, kI a), (5, kI li), (6, kI fo), (7, kI (mi + (F_X11_of 201 (30 + (μ 220 i)) μ))), (8, kI (mi2 + 1)), (9, kI (i + 1))] μ10) ∧ (¬ ((F_X11_of 201 (20 + li) μ10) ≤ rv11) → V_X11_run R 84 [(0, kR 201), (2, kI a), (5, kI li), (6, kI (i + 1)), (7, kI (mi + (F_X11_of 201 (30 + (μ 220 i)) μ))), (8, kI mi2), (9, kI (i + 1))] μ10))) ∧ (¬ ((μ 220 i) = li) → V_X11_run R 84 [(0, kR 201), (2, kI a), (5, kI li), (6, kI fo), (7, kI (mi + (F_X11_of 201 (30 + (μ 220 i)) μ))), (8, kI mi2), (9, kI (i + 1))] μ))))
  exact ⟨⟨H.1, H.2.1⟩, fun hc17 => ⟨c_201, ⟨isArr.in a_202 (by omega) (by omega), (H.2.2.1 hc17)⟩⟩, fun hc17 => ⟨c_201, ⟨⟨(H.2.2.2 hc17).1, (H.2.2.2 hc17).2.1⟩, fun hc16 => ⟨c_201, ⟨isArr.in a_202 (by omega) (by omega), ((H.2.2.2 hc17).2.2.1 hc16)⟩⟩, fun hc16 => ⟨((H.2.2.2 hc17).2.2.2 hc16).1, fun hc15 => ⟨c_201, ⟨isArr.in a_202 (by omega) (by omega), (((H.2.2.2 hc17).2.2.2 hc16).2.1 hc15)⟩⟩, fun hc15 => ⟨c_201, ⟨isArr.in a_220 (((H.2.2.2 hc17).2.2.2 hc16).2.2 hc15).1.1 (((H.2.2.2 hc17).2.2.2 hc16).2.2 hc15).1.2, ⟨c_201, (((H.2.2.2 hc17).2.2.2 hc16).2.2 hc15).2.1, ⟨c_201, ⟨isArr.in a_220 (((H.2.2.2 hc17).2.2.2 hc16).2.2 hc15).2.2.1.1 (((H.2.2.2 hc17).2.2.2 hc16).2.2 hc15).2.2.1.2, ⟨⟨(((H.2.2.2 hc17).2.2.2 hc16).2.2 hc15).2.2.2.1, (((H.2.2.2 hc17).2.2.2 hc16).2.2 hc15).2.2.2.2.1⟩, fun hc14 => ⟨c_201, ((((H.2.2.2 hc17).2.2.2 hc16).2.2 hc15).2.2.2.2.2.1 hc14).1, fun μ10 rv11 hq12 => ⟨c_201, (((((H.2.2.2 hc17).2.2.2 hc16).2.2 hc15).2.2.2.2.2.1 hc14).2 μ10 rv11 hq12).1, ⟨⟨(((((H.2.2.2 hc17).2.2.2 hc16).2.2 hc15).2.2.2.2.2.1 hc14).2 μ10 rv11 hq12).2.1, (((((H.2.2.2 hc17).2.2.2 hc16).2.2 hc15).2.2.2.2.2.1 hc14).2 μ10 rv11 hq12).2.2.1⟩, fun hc13 => ((((((H.2.2.2 hc17).2.2.2 hc16).2.2 hc15).2.2.2.2.2.1 hc14).2 μ10 rv11 hq12).2.2.2.1 hc13), fun hc13 => ((((((H.2.2.2 hc17).2.2.2 hc16).2.2 hc15).2.2.2.2.2.1 hc14).2 μ10 rv11 hq12).2.2.2.2 hc13)⟩⟩⟩, fun hc14 => ((((H.2.2.2 hc17).2.2.2 hc16).2.2 hc15).2.2.2.2.2.2 hc14)⟩⟩⟩⟩⟩⟩⟩⟩⟩⟩
set_option maxRecDepth 20000 in
theorem vc_X11_run_182 {R : Mem → Option AV → Prop} {fo mi mi2 : Int} {μ : Mem} (H : V_X11_run R 191 [(0, kR 201), (6, kI fo), (7, kI mi), (8, kI mi2)] (updm μ 202 6 fo)) : V_X11_run R 182 [(0, kR 201), (6, kI fo), (7, kI mi), (8, kI mi2)] μ := by
  refine vm_step2 mt_X11_run ok_X11_run [(25, [0, 2]), (38, [0, 2, 4, 5]), (84, [0, 2, 5, 6, 7, 8, 9]), (182, [0, 6, 7, 8]), (191, [0, 6, 7, 8]), (200, [0, 6, 8]), (209, [0, 6]), (219, [6])] 1000 ?_
  show isC 201 11 ∧ inA 202 0 (6 : Int) ∧ V_X11_run R 191 [(0, kR 201), (6, kI fo), (7, kI mi), (8, kI mi2)] (updm μ 202 6 fo)
  exact ⟨c_201, ⟨isArr.in a_202 (by omega) (by omega), H⟩⟩
set_option maxRecDepth 20000 in
theorem vc_X11_run_191 {R : Mem → Option AV → Prop} {fo mi mi2 : Int} {μ : Mem} (H : V_X11_run R 200 [(0, kR 201), (6, kI fo), (8, kI mi2)] (updm μ 202 7 mi)) : V_X11_run R 191 [(0, kR 201), (6, kI fo), (7, kI mi), (8, kI mi2)] μ := by
  refine vm_step2 mt_X11_run ok_X11_run [(25, [0, 2]), (38, [0, 2, 4, 5]), (84, [0, 2, 5, 6, 7, 8, 9]), (182, [0, 6, 7, 8]), (191, [0, 6, 7, 8]), (200, [0, 6, 8]), (209, [0, 6]), (219, [6])] 1000 ?_
  show isC 201 11 ∧ inA 202 0 (7 : Int) ∧ V_X11_run R 200 [(0, kR 201), (6, kI fo), (8, kI mi2)] (updm μ 202 7 mi)
  exact ⟨c_201, ⟨isArr.in a_202 (by omega) (by omega), H⟩⟩
set_option maxRecDepth 20000 in
theorem vc_X11_run_200 {R : Mem → Option AV → Prop} {fo mi2 : Int} {μ : Mem} (H : V_X11_run R 209 [(0, kR 201), (6, kI fo)] (updm μ 202 8 mi2)) : V_X11_run R 200 [(0, kR 201), (6, kI fo), (8, kI mi2)] μ := by
  refine vm_step2 mt_X11_run ok_X11_run [(25, [0, 2]), (38, [0, 2, 4, 5]), (84, [0, 2, 5, 6, 7, 8, 9]), (182, [0, 6, 7, 8]), (191, [0, 6, 7, 8]), (200, [0, 6, 8]), (209, [0, 6]), (219, [6])] 1000 ?_
  show isC 201 11 ∧ inA 202 0 (8 : Int) ∧ V_X11_run R 209 [(0, kR 201), (6, kI fo)] (updm μ 202 8 mi2)
  exact ⟨c_201, ⟨isArr.in a_202 (by omega) (by omega), H⟩⟩
set_option maxRecDepth 20000 in
theorem vc_X11_run_209 {R : Mem → Option AV → Prop} {fo : Int} {μ : Mem} (H : V_X11_run R 219 [(6, kI fo)] (updm μ 202 1 ((μ 202 1) + 1))) : V_X11_run R 209 [(0, kR 201), (6, kI fo)] μ := by
  refine vm_step2 mt_X11_run ok_X11_run [(25, [0, 2]), (38, [0, 2, 4, 5]), (84, [0, 2, 5, 6, 7, 8, 9]), (182, [0, 6, 7, 8]), (191, [0, 6, 7, 8]), (200, [0, 6, 8]), (209, [0, 6]), (219, [6])] 1000 ?_
  show isC 201 11 ∧ inA 202 0 (1 : Int) ∧ inA 202 0 (1 : Int) ∧ V_X11_run R 219 [(6, kI fo)] (updm μ 202 1 ((μ 202 1) + 1))
  exact ⟨c_201, ⟨isArr.in a_202 (by omega) (by omega), ⟨isArr.in a_202 (by omega) (by omega), H⟩⟩⟩
set_option maxRecDepth 20000 in
theorem vc_X11_run_219 {R : Mem → Option AV → Prop} {fo : Int} {μ : Mem} (H : R μ (some (kI fo))) : V_X11_run R 219 [(6, kI fo)] μ := by
  refine vm_step2 mt_X11_run ok_X11_run [(25, [0, 2]), (38, [0, 2, 4, 5]), (84, [0, 2, 5, 6, 7, 8, 9]), (182, [0, 6, 7, 8]), (191, [0, 6, 7, 8]), (200, [0, 6, 8]), (209, [0, 6]), (219, [6])] 1000 ?_
  show R μ (some (kI fo))
  exact H
theorem sm4_pos {v : TV} (ok : TVok v) : ∀ n : Int, 0 ≤ n → n ≤ v 0 0 → 0 ≤ sm (v 4) n ∧ sm (v 4) n ≤ 792 := fun n n0 n1 => by
  have hp := ok.1
  have := sm_bd (f := v 4) (n := n) (c := 0) (d := 99) (fun i i0 i1 => (ok.2.2.2.1 i i0 (by omega)).1) n0
  omega
theorem body_X11_run {o n a k : Int} {μ : Mem} {R : Mem → Option AV → Prop} (h : P_X11_run o n a k μ) (hR : ∀ (μ' : Mem) (r : Int), Q_X11_run o n a k μ μ' r → R μ' (some (kI r))) : V_X11_run R 0 [(0, kR o), (1, kI n), (2, kI a), (3, kI k)] μ := by
  obtain ⟨rfl, hs, r_n, r_a, r_k⟩ := h
  have ir := isIn_r (x := a) (lo := 0) (hi := 64) (μ := μ)
  have no : ∀ m : Mem, AskM μ m → ¬ ((0 ≤ n ∧ n < μ 202 0) ∧ 0 ≤ a ∧ a ≤ 64) → Q_X11_run 201 n a k μ m (-1) := fun m ask q => by
    unfold Q_X11_run runS
    rw [mn_3, if_neg q]
    exact ⟨ask.st, rfl, fun z hz => ask z (Or.inl hz)⟩
  refine vc_X11_run_0 ⟨⟨r_a, rr (by omega), rr (by omega)⟩, rr (by omega), fun d => hR μ _ (no μ (AskM_0 μ) (fun q => isIn_1.mpr q.2 d)), fun d => ⟨⟨rfl, hs, r_n⟩, fun m rv q => ?_⟩⟩
  have da := isIn_1.mp d
  obtain ⟨q1, q3, q4⟩ := q
  have ask : AskM μ m := fun z hz => q1 z (by omega) (by omega) (by omega) (by omega)
  by_cases c : 0 ≤ n ∧ n < μ 202 0
  case neg =>
    have e := q3 c
    subst e
    exact ⟨rr (by omega), fun q => absurd rfl q, fun _ => hR m _ (no m ask (fun q => c q.1))⟩
  obtain ⟨rfl, hb, hv, hl⟩ := q4 c
  have ok := hb.v
  have hp := hb.p
  have hpe := hb.2.1
  have cb := cntV_bd (vm m)
  have poz : 0 < sm (vm m 4) (vm m 0 0) := hb.2.2.2.2.2.1
  have sp := sm4_pos ok (vm m 0 0) (by omega) (Int.le_refl _)
  refine ⟨rr (by omega), fun _ => ?_, fun q => absurd (show ¬ (1 : Int) = 0 by omega) q⟩
  -- memories on the way: nothing but what was drawn has changed
  obtain ⟨Fr, hFr⟩ : ∃ Fr : Mem → Prop, Fr = fun x => FldM m x [51] ∧ ∀ z : Int, z ≠ 201 → x z = m z := ⟨_, rfl⟩
  have frB : ∀ x, Fr x → MB x ∧ vm x = vm m ∧ LkM x (vm m) ∧ x 202 = m 202 := fun x hx => by
    rw [hFr] at hx
    have := MB_frame hb (hx.2 202 (by omega)) (hx.1 12 (by decide)) (hx.1 13 (by decide))
    refine ⟨this.1, this.2, ?_, hx.2 202 (by omega)⟩
    unfold LkM
    rw [hx.1 34 (by decide), hx.2 220 (by omega), hx.2 221 (by omega)]
    exact hl
  have frD : ∀ x y nn r, Fr x → Q_X11_draws 201 nn x y r → Fr y := fun x y nn r hx hq => by
    rw [hFr] at hx ⊢
    exact ⟨fun f hf => by rw [hq.2.2.1 f hf, hx.1 f hf], fun z hz => by rw [hq.2.2.2 z hz, hx.2 z hz]⟩
  obtain ⟨m1, em1⟩ : ∃ x, x = updm m 201 51 k := ⟨_, rfl⟩
  rw [← em1]
  have F1 : Fr m1 := by
    rw [hFr]
    refine ⟨fun f hf => ?_, fun z hz => by rw [em1, ru_ne hz]⟩
    have q : f ≠ 51 := fun q => hf (by simp [q])
    rw [em1, ru_eq, r1_ne q]
  have g51 : m1 201 51 = k := by rw [em1, ru_eq, r1_eq]
  obtain ⟨mb1, ev1, _, _⟩ := frB m1 F1
  have et : F_X11_total 201 m1 = sm (vm m 4) (vm m 0 0) := by unfold F_X11_total; rw [ev1]; exact all8 ok
  refine vc_X11_run_25 ?_
  rw [et]
  refine ⟨⟨rfl, mb1⟩, ⟨rfl, by omega, by omega⟩, fun m6 rv7 hd => ?_⟩
  have F6 := frD m1 m6 _ _ F1 hd
  obtain ⟨d1, d2, d3, d4⟩ := hd
  rw [g51] at d1 d2
  obtain ⟨mb6, ev6, lk6, e202⟩ := frB m6 F6
  have nb := numV_bd (drawV k)
  have rb : 0 ≤ rv7 ∧ rv7 < sm (vm m 4) (vm m 0 0) := by
    rw [d2]
    exact ⟨Int.emod_nonneg _ (by omega), Int.emod_lt_of_pos _ poz⟩
  -- where it lies
  have lies : ∀ li : Int, 0 ≤ li → li < vm m 0 0 → (∀ j : Int, 0 ≤ j → j < li → ¬ rv7 < sm (vm m 4) (j + 1)) → rv7 < sm (vm m 4) (li + 1) → li = liV (vm m) k := fun li l0 l1 hno hyes => by
    unfold liV liesV byNumV
    rw [← d2, frst_at l0 l1 (decide_eq_true hyes) (fun j j0 j1 => decide_eq_false (hno j j0 j1))]
    omega
  refine up_ind (P := fun li => (∀ j : Int, 0 ≤ j → j < li → ¬ rv7 < sm (vm m 4) (j + 1)) → V_X11_run R 38 [(0, kR 201), (2, kI a), (4, kI (rv7 - sm (vm m 4) li)), (5, kI li)] m6) (lo := 0) (hi := vm m 0 0) ?_ ?_ 0 (by omega) (by omega) (fun j j0 j1 => absurd j1 (by omega)) |> fun z => by
    have := z
    rw [sm_0, Int.sub_zero] at this
    exact this
  case refine_2 =>
    intro hno
    exfalso
    have := hno (vm m 0 0 - 1) (by omega) (by omega)
    rw [show vm m 0 0 - 1 + 1 = vm m 0 0 by omega] at this
    omega
  intro li l0 l1 ih hno
  have h4 := (ok.2.2.2.1 li l0 (by omega)).1
  have s1 := sm4_pos ok li l0 (by omega)
  have es := sm_s (f := vm m 4) l0
  rw [es] at ih
  refine vc_X11_run_38 ?_
  rw [of_4 l0 (by omega), ev6]
  have hP : P_X11_of 201 (10 + li) m6 := ⟨rfl, mb6.1, by omega, by omega⟩
  refine ⟨hP, rr (by omega), rr (by omega), fun q => ?_, fun q => ⟨hP, ?_⟩⟩
  case refine_2 =>
    have := ih (fun j j0 j1 => by
      by_cases e : j = li
      · rw [e, es]; omega
      · exact hno j j0 (by omega))
    rw [show ∀ x y z : Int, x - (y + z) = x - y - z from fun x y z => by omega] at this
    exact this
  have el := lies li l0 l1 hno (by rw [es]; omega)
  clear ih
  -- the looks
  obtain ⟨rs, hrs⟩ : ∃ rs, rs = rnV (vm m) a k := ⟨_, rfl⟩
  have erun : rs = seekV (vm m) li (drawV k) (min a (cntV (vm m))) := by
    rw [hrs]
    unfold rnV runV
    rw [show liesV (vm m) (sm (vm m 4) (vm m 0 0)) k = liV (vm m) k from rfl, ← el]
  -- the end
  have done : ∀ x : Mem, Fr x → ∀ fo mi mi2 : Int, fo = rs.2.1 → mi = rs.2.2.1 → mi2 = rs.2.2.2 → V_X11_run R 182 [(0, kR 201), (6, kI fo), (7, kI mi), (8, kI mi2)] (updm x 202 5 li) := by
    intro x hx fo mi mi2 hfo hmi hmi2
    obtain ⟨_, _, _, ex⟩ := frB x hx
    have hx2 := hx
    rw [hFr] at hx2
    refine vc_X11_run_182 (vc_X11_run_191 (vc_X11_run_200 (vc_X11_run_209 ?_)))
    have g1 : updm (updm (updm (updm x 202 5 li) 202 6 fo) 202 7 mi) 202 8 mi2 202 1 = μ 202 1 := by
      rw [ru_eq, r1_ne (by omega), ru_eq, r1_ne (by omega), ru_eq, r1_ne (by omega), ru_eq, r1_ne (by omega), ex, q1 202 (by omega) (by omega) (by omega) (by omega)]
    rw [g1]
    obtain ⟨y, ey⟩ : ∃ y, y = updm (updm (updm (updm (updm x 202 5 li) 202 6 fo) 202 7 mi) 202 8 mi2) 202 1 (μ 202 1 + 1) := ⟨_, rfl⟩
    rw [← ey]
    refine vc_X11_run_219 (hR y fo ?_)
    have yz : ∀ z : Int, z ≠ 202 → y z = x z := fun z hz => by rw [ey, ru_ne hz, ru_ne hz, ru_ne hz, ru_ne hz, ru_ne hz]
    have y202 : y 202 = upd1 (upd1 (upd1 (upd1 (upd1 (μ 202) 5 li) 6 fo) 7 mi) 8 mi2) 1 (μ 202 1 + 1) := by
      rw [ey, ru_eq, ru_eq, ru_eq, ru_eq, ru_eq, ex, q1 202 (by omega) (by omega) (by omega) (by omega)]
    have yo : ∀ j : Int, j ≠ 1 → j ≠ 5 → j ≠ 6 → j ≠ 7 → j ≠ 8 → y 202 j = μ 202 j := fun j h1 h5 h6 h7 h8 => by rw [y202, r1_ne h1, r1_ne h8, r1_ne h7, r1_ne h6, r1_ne h5]
    unfold Q_X11_run runS
    rw [mn_3, if_pos ⟨c, da⟩, ← hv, ← hrs]
    refine ⟨?_, hfo, fun z hz => by rw [yz z (by omega), hx2.2 z (by omega), q1 z (by omega) (by omega) (by omega) (by omega)]⟩
    rw [stM_head (yo 0 (by omega) (by omega) (by omega) (by omega) (by omega)) (fun j j0 => yo j (by omega) (by omega) (by omega) (by omega) (by omega)) (by rw [yz 203 (by omega), hx2.2 203 (by omega), q1 203 (by omega) (by omega) (by omega) (by omega)]), ← el, ← hfo, ← hmi, ← hmi2]
    refine Prod.ext (Prod.ext ?_ (Prod.ext ?_ rfl)) rfl
    · show clip (y 202 2) (fun j => y 202 (10 + j)) = clip (μ 202 2) (fun j => μ 202 (0 + 10 + j))
      rw [yo 2 (by omega) (by omega) (by omega) (by omega) (by omega)]
      exact clip_ext fun j j0 j1 => by rw [yo _ (by omega) (by omega) (by omega) (by omega) (by omega)]; rfl
    · funext f
      show clip 9 (fun k => y 202 (nmM k)) f = upd1 (upd1 (upd1 (upd1 (upd1 (stM μ).1.2.1 4 ((stM μ).1.2.1 4 + 1)) 5 li) 6 fo) 7 mi) 8 mi2 f
      have cl : ∀ j : Int, 0 ≤ j → j < 9 → clip 9 (fun k => y 202 (nmM k)) j = y 202 (nmM j) := fun j j0 j1 => clip_in (n := 9) (j := j) (f := fun k => y 202 (nmM k)) j0 j1
      by_cases e8 : f = 8
      · rw [e8, r1_eq, cl 8 (by omega) (by omega), show nmM 8 = 8 from rfl, y202, r1_ne (by omega), r1_eq]
      rw [r1_ne e8]
      by_cases e7 : f = 7
      · rw [e7, r1_eq, cl 7 (by omega) (by omega), show nmM 7 = 7 from rfl, y202, r1_ne (by omega), r1_ne (by omega), r1_eq]
      rw [r1_ne e7]
      by_cases e6 : f = 6
      · rw [e6, r1_eq, cl 6 (by omega) (by omega), show nmM 6 = 6 from rfl, y202, r1_ne (by omega), r1_ne (by omega), r1_ne (by omega), r1_eq]
      rw [r1_ne e6]
      by_cases e5 : f = 5
      · rw [e5, r1_eq, cl 5 (by omega) (by omega), show nmM 5 = 5 from rfl, y202, r1_ne (by omega), r1_ne (by omega), r1_ne (by omega), r1_ne (by omega), r1_eq]
      rw [r1_ne e5]
      by_cases e4 : f = 4
      · rw [e4, r1_eq, cl 4 (by omega) (by omega), show nmM 4 = 1 from rfl, y202, r1_eq, mn_4]
      rw [r1_ne e4]
      show (if 0 ≤ f ∧ f < 9 then y 202 (nmM f) else 0) = if 0 ≤ f ∧ f < 9 then μ 202 (0 + nmM f) else 0
      by_cases q : 0 ≤ f ∧ f < 9
      · have : nmM f ≠ 1 ∧ nmM f < 5 := by unfold nmM; split <;> (try split) <;> omega
        rw [if_pos q, if_pos q, yo _ this.1 (by omega) (by omega) (by omega) (by omega), Int.zero_add]
      · rw [if_neg q, if_neg q]
  refine up_ind (P := fun i => ∀ x : Mem, Fr x → x 201 51 = (seekV (vm m) li (drawV k) i).1 → V_X11_run R 84 [(0, kR 201), (2, kI a), (5, kI li), (6, kI (seekV (vm m) li (drawV k) i).2.1), (7, kI (seekV (vm m) li (drawV k) i).2.2.1), (8, kI (seekV (vm m) li (drawV k) i).2.2.2), (9, kI i)] x) (lo := 0) (hi := min a (cntV (vm m))) ?_ ?_ 0 (by omega) (by omega) m6 F6 d1
  · intro i i0 i1 ih x hx h51
    obtain ⟨mbx, evx, lkx, exx⟩ := frB x hx
    have bd := seek_bd ok (lies := li) (x := drawV k) i i0 (by omega)
    have st := seekV_stay (v := vm m) (lies := li) (x := drawV k) (n := i) i0
    have es := seekV_s (v := vm m) (lies := li) (x := drawV k) (n := i) i0
    have hr := row_in ok i0 (by omega)
    have h6 := (ok.2.2.2.1 (rowV (vm m) i) hr.1.1 (by omega)).2.2
    have h5 := (ok.2.2.2.1 li l0 (by omega)).2.1
    rw [es] at ih
    generalize seekV (vm m) li (drawV k) i = S at ih bd st h51 ⊢
    have e20 := lkx.2.1 i i0 (by omega)
    have e34 := lkx.1
    refine vc_X11_run_84 ?_
    rw [e20, of_6 hr.1.1 (by omega), e34, evx]
    refine ⟨rr (by omega), r_a, fun q => absurd q (by omega), fun _ => ⟨rr (by omega), rr (by omega), fun q => absurd q (by omega), fun _ => ⟨rr (by omega), fun q => ?_, fun q => ?_⟩⟩⟩
    · have := st q (min a (cntV (vm m))) (by omega)
      exact done x hx _ _ _ (by rw [erun, this]) (by rw [erun, this]) (by rw [erun, this])
    · have q0 : S.2.1 = 0 := Classical.byContradiction q
      refine ⟨by omega, ⟨rfl, mbx.1, by omega, by omega⟩, by omega, rr (by omega), rr (by omega), fun g => ⟨⟨rfl, by omega, by omega⟩, fun m10 rv11 hd => ?_⟩, fun g => ?_⟩
      · have F10 := frD x m10 _ _ hx hd
        obtain ⟨mb10, ev10, _, _⟩ := frB m10 F10
        obtain ⟨x1, x2, _, _⟩ := hd
        rw [h51] at x1 x2
        have nbb := numV_bd (drawV S.1)
        rw [of_5 l0 (by omega), ev10]
        unfold seekF at ih
        rw [if_neg (not_not_intro q0), if_neg (not_not_intro g), g] at ih
        rw [q0, g]
        have x3 : 0 ≤ rv11 ∧ rv11 < 12 := by omega
        refine ⟨⟨rfl, mb10.1, by omega, by omega⟩, rr (by omega), rr (by omega), fun e => ?_, fun e => ?_⟩
        · rw [if_neg (by omega)] at ih
          exact ih m10 F10 x1
        · rw [if_pos (by omega)] at ih
          exact ih m10 F10 x1
      · unfold seekF at ih
        rw [if_neg (not_not_intro q0), if_pos g] at ih
        rw [q0]
        exact ih x hx h51
  · intro x hx h51
    obtain ⟨mbx, evx, lkx, exx⟩ := frB x hx
    have e34 := lkx.1
    have d0 := done x hx _ _ _ (by rw [erun]) (by rw [erun]) (by rw [erun])
    refine vc_X11_run_84 ?_
    rw [e34]
    by_cases q : a ≤ cntV (vm m)
    · exact ⟨rr (by omega), r_a, fun _ => d0, fun g => absurd (by omega) g⟩
    · refine ⟨rr (by omega), r_a, fun _ => d0, fun _ => ⟨rr (by omega), rr (by omega), fun _ => d0, fun g => absurd (by omega) g⟩⟩
theorem ct_X11_run : Ct mX11_run 5 112 0 0 (nrmS S_X11_run) := by
  refine ct_vm (own := RX11) (by decide +kernel) rfl ?_ ?_
  · intro as μ Q hS
    unfold S_X11_run at hS
    split at hS
    · exact Nat.le_of_ble_eq_true rfl
    · exact hS.elim
  · intro as μ R hS
    unfold S_X11_run at hS
    split at hS
    · exact body_X11_run hS.1 hS.2
    · exact hS.elim
