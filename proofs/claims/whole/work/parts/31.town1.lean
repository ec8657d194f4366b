def P_X7_has (t a : Int) (μ : Mem) : Prop := isT t ∧ r32 a ∧ (2 ≤ μ t 1 ∧ μ t 1 ≤ 8)
def F_X7_has (t a : Int) (μ : Mem) : Int := if 0 ≤ a ∧ a < μ t 1 then 1 else 0
def S_X7_has : S0t := fun as μ Q => match as with
  | [(2, x0), (0, x1)] => P_X7_has x0 x1 μ ∧ Q μ (some (kI (F_X7_has x0 x1 μ)))
  | _ => False
theorem mono_X7_has : Mono S_X7_has := by
  intro as μ Q Q' h hS
  unfold S_X7_has at hS ⊢
  split at hS
  · exact ⟨hS.1, h _ _ hS.2⟩
  · exact hS.elim
def iX7_has : Inf := (kX7_has, fTX7, pTX7, cTX7, lTX7, sTX7, [])
theorem ok_X7_has : infOK iX7_has mX7_has RX7 0 0 := ⟨kkX7_has, fTX7_ok, pTX7_ok _, cTX7_ok, lTX7_ok, sTX7_ok, c_nil⟩
theorem mt_X7_has : mtOK [] RX7 0 0 := mt_nil
abbrev V_X7_has (R : Mem → Option AV → Prop) (pc : Nat) (lc : List (Nat × AV)) (μ : Mem) : Prop := VM mX7_has RX7 0 0 R pc lc [] μ
set_option maxRecDepth 20000 in
theorem vc_X7_has_0 {R : Mem → Option AV → Prop} {a t : Int} {μ : Mem} (ht : isT t) (H : r32 a ∧ ((a < 0) → R μ (some (kI 0))) ∧ (¬ (a < 0) → r32 a ∧ r32 (μ t 1) ∧ (((μ t 1) ≤ a) → R μ (some (kI 0))) ∧ (¬ ((μ t 1) ≤ a) → R μ (some (kI 1))))) : V_X7_has R 0 [(0, kR t), (1, kI a)] μ := by
  refine vm_step2 mt_X7_has ok_X7_has [] 1000 ?_
  show r32 a ∧ ((a < 0) → (0 ≤ (0 : Int) ∧ (0 : Int) ≤ 1) ∧ R μ (some (kI 0))) ∧ (¬ (a < 0) → isC t 7 ∧ (r32 a ∧ r32 (μ t 1)) ∧ (((μ t 1) ≤ a) → (0 ≤ (0 : Int) ∧ (0 : Int) ≤ 1) ∧ R μ (some (kI 0))) ∧ (¬ ((μ t 1) ≤ a) → (0 ≤ (1 : Int) ∧ (1 : Int) ≤ 1) ∧ R μ (some (kI 1))))
  exact ⟨H.1, fun hc2 => ⟨⟨by omega, by omega⟩, (H.2.1 hc2)⟩, fun hc2 => ⟨isT_C ht, ⟨⟨(H.2.2 hc2).1, (H.2.2 hc2).2.1⟩, fun hc1 => ⟨⟨by omega, by omega⟩, ((H.2.2 hc2).2.2.1 hc1)⟩, fun hc1 => ⟨⟨by omega, by omega⟩, ((H.2.2 hc2).2.2.2 hc1)⟩⟩⟩⟩
theorem body_X7_has {t a : Int} {μ : Mem} {R : Mem → Option AV → Prop} (h : P_X7_has t a μ) (hR : R μ (some (kI (F_X7_has t a μ)))) : V_X7_has R 0 [(0, kR t), (1, kI a)] μ := by
  obtain ⟨ht, h1, h2⟩ := h
  unfold F_X7_has at hR
  refine vc_X7_has_0 ht ?_
  repeat' (first | (intro _) | (refine And.intro ?_ ?_))
  all_goals first | exact h1.1 | exact h1.2 | omega | exact r_eq hR (by omega)
theorem ct_X7_has : Ct mX7_has 0 0 0 0 (nrmS S_X7_has) := by
  refine ct_vm (own := RX7) (by decide +kernel) rfl ?_ ?_
  · intro as μ Q hS
    unfold S_X7_has at hS
    split at hS
    · exact Nat.le_of_ble_eq_true rfl
    · exact hS.elim
  · intro as μ R hS
    unfold S_X7_has at hS
    split at hS
    · exact body_X7_has hS.1 hS.2
    · exact hS.elim
def P_X7_hasWalk (t a : Int) (μ : Mem) : Prop := isT t ∧ r32 a ∧ (0 ≤ μ t 12 ∧ μ t 12 ≤ 8)
def F_X7_hasWalk (t a : Int) (μ : Mem) : Int := if 0 ≤ a ∧ a < μ t 12 then 1 else 0
def S_X7_hasWalk : S0t := fun as μ Q => match as with
  | [(2, x0), (0, x1)] => P_X7_hasWalk x0 x1 μ ∧ Q μ (some (kI (F_X7_hasWalk x0 x1 μ)))
  | _ => False
theorem mono_X7_hasWalk : Mono S_X7_hasWalk := by
  intro as μ Q Q' h hS
  unfold S_X7_hasWalk at hS ⊢
  split at hS
  · exact ⟨hS.1, h _ _ hS.2⟩
  · exact hS.elim
def iX7_hasWalk : Inf := (kX7_hasWalk, fTX7, pTX7, cTX7, lTX7, sTX7, [])
theorem ok_X7_hasWalk : infOK iX7_hasWalk mX7_hasWalk RX7 0 0 := ⟨kkX7_hasWalk, fTX7_ok, pTX7_ok _, cTX7_ok, lTX7_ok, sTX7_ok, c_nil⟩
theorem mt_X7_hasWalk : mtOK [] RX7 0 0 := mt_nil
abbrev V_X7_hasWalk (R : Mem → Option AV → Prop) (pc : Nat) (lc : List (Nat × AV)) (μ : Mem) : Prop := VM mX7_hasWalk RX7 0 0 R pc lc [] μ
set_option maxRecDepth 20000 in
theorem vc_X7_hasWalk_0 {R : Mem → Option AV → Prop} {w t : Int} {μ : Mem} (ht : isT t) (H : r32 w ∧ ((w < 0) → R μ (some (kI 0))) ∧ (¬ (w < 0) → r32 w ∧ r32 (μ t 12) ∧ (((μ t 12) ≤ w) → R μ (some (kI 0))) ∧ (¬ ((μ t 12) ≤ w) → R μ (some (kI 1))))) : V_X7_hasWalk R 0 [(0, kR t), (1, kI w)] μ := by
  refine vm_step2 mt_X7_hasWalk ok_X7_hasWalk [] 1000 ?_
  show r32 w ∧ ((w < 0) → (0 ≤ (0 : Int) ∧ (0 : Int) ≤ 1) ∧ R μ (some (kI 0))) ∧ (¬ (w < 0) → isC t 7 ∧ (r32 w ∧ r32 (μ t 12)) ∧ (((μ t 12) ≤ w) → (0 ≤ (0 : Int) ∧ (0 : Int) ≤ 1) ∧ R μ (some (kI 0))) ∧ (¬ ((μ t 12) ≤ w) → (0 ≤ (1 : Int) ∧ (1 : Int) ≤ 1) ∧ R μ (some (kI 1))))
  exact ⟨H.1, fun hc2 => ⟨⟨by omega, by omega⟩, (H.2.1 hc2)⟩, fun hc2 => ⟨isT_C ht, ⟨⟨(H.2.2 hc2).1, (H.2.2 hc2).2.1⟩, fun hc1 => ⟨⟨by omega, by omega⟩, ((H.2.2 hc2).2.2.1 hc1)⟩, fun hc1 => ⟨⟨by omega, by omega⟩, ((H.2.2 hc2).2.2.2 hc1)⟩⟩⟩⟩
theorem body_X7_hasWalk {t w : Int} {μ : Mem} {R : Mem → Option AV → Prop} (h : P_X7_hasWalk t w μ) (hR : R μ (some (kI (F_X7_hasWalk t w μ)))) : V_X7_hasWalk R 0 [(0, kR t), (1, kI w)] μ := by
  obtain ⟨ht, h1, h2⟩ := h
  unfold F_X7_hasWalk at hR
  refine vc_X7_hasWalk_0 ht ?_
  repeat' (first | (intro _) | (refine And.intro ?_ ?_))
  all_goals first | exact h1.1 | exact h1.2 | omega | exact r_eq hR (by omega)
theorem ct_X7_hasWalk : Ct mX7_hasWalk 0 0 0 0 (nrmS S_X7_hasWalk) := by
  refine ct_vm (own := RX7) (by decide +kernel) rfl ?_ ?_
  · intro as μ Q hS
    unfold S_X7_hasWalk at hS
    split at hS
    · exact Nat.le_of_ble_eq_true rfl
    · exact hS.elim
  · intro as μ R hS
    unfold S_X7_hasWalk at hS
    split at hS
    · exact body_X7_hasWalk hS.1 hS.2
    · exact hS.elim
def awayS (s : Int) : Int := ((dif s.toNat 1 : Nat) : Int)
def P_X7_cellarsAway (t : Int) (μ : Mem) : Prop := isT t ∧ (0 ≤ μ t 4 ∧ μ t 4 < 256)
def F_X7_cellarsAway (t : Int) (μ : Mem) : Int := awayS (μ t 4)
def S_X7_cellarsAway : S0t := fun as μ Q => match as with
  | [(2, x0)] => P_X7_cellarsAway x0 μ ∧ Q μ (some (kI (F_X7_cellarsAway x0 μ)))
  | _ => False
theorem mono_X7_cellarsAway : Mono S_X7_cellarsAway := by
  intro as μ Q Q' h hS
  unfold S_X7_cellarsAway at hS ⊢
  split at hS
  · exact ⟨hS.1, h _ _ hS.2⟩
  · exact hS.elim
def iX7_cellarsAway : Inf := (kX7_cellarsAway, fTX7, pTX7, cTX7, lTX7, sTX7, [])
theorem ok_X7_cellarsAway : infOK iX7_cellarsAway mX7_cellarsAway RX7 0 0 := ⟨kkX7_cellarsAway, fTX7_ok, pTX7_ok _, cTX7_ok, lTX7_ok, sTX7_ok, c_nil⟩
theorem mt_X7_cellarsAway : mtOK [] RX7 0 0 := mt_nil
abbrev V_X7_cellarsAway (R : Mem → Option AV → Prop) (pc : Nat) (lc : List (Nat × AV)) (μ : Mem) : Prop := VM mX7_cellarsAway RX7 0 0 R pc lc [] μ
set_option maxRecDepth 20000 in
theorem vc_X7_cellarsAway_0 {R : Mem → Option AV → Prop} {t : Int} {μ : Mem} (ht : isT t) (H : R μ (some (kI (band (μ t 4) (-2))))) : V_X7_cellarsAway R 0 [(0, kR t)] μ := by
  refine vm_step2 mt_X7_cellarsAway ok_X7_cellarsAway [] 1000 ?_
  show isC t 7 ∧ R μ (some (kI (band (μ t 4) (-2))))
  exact ⟨isT_C ht, H⟩
theorem body_X7_cellarsAway {t : Int} {μ : Mem} {R : Mem → Option AV → Prop} (h : P_X7_cellarsAway t μ) (hR : R μ (some (kI (F_X7_cellarsAway t μ)))) : V_X7_cellarsAway R 0 [(0, kR t)] μ := by
  obtain ⟨ht, h1, h2⟩ := h
  refine vc_X7_cellarsAway_0 ht (r_eq hR ?_)
  have e := b_dif (s := μ t 4) (g := 1) h1 (by omega) (by omega) (by omega)
  have e2 : bxor 1 (-1) = -2 := by decide +kernel
  rw [e2] at e
  exact e.symm
theorem ct_X7_cellarsAway : Ct mX7_cellarsAway 0 0 0 0 (nrmS S_X7_cellarsAway) := by
  refine ct_vm (own := RX7) (by decide +kernel) rfl ?_ ?_
  · intro as μ Q hS
    unfold S_X7_cellarsAway at hS
    split at hS
    · exact Nat.le_of_ble_eq_true rfl
    · exact hS.elim
  · intro as μ R hS
    unfold S_X7_cellarsAway at hS
    split at hS
    · exact body_X7_cellarsAway hS.1 hS.2
    · exact hS.elim
def P_X7_isTree (t : Int) (μ : Mem) : Prop := isT t ∧ (2 ≤ μ t 1 ∧ μ t 1 ≤ 8) ∧ r32 (μ t 2)
def F_X7_isTree (t : Int) (μ : Mem) : Int := if μ t 2 = μ t 1 - 1 then 1 else 0
def S_X7_isTree : S0t := fun as μ Q => match as with
  | [(2, x0)] => P_X7_isTree x0 μ ∧ Q μ (some (kI (F_X7_isTree x0 μ)))
  | _ => False
theorem mono_X7_isTree : Mono S_X7_isTree := by
  intro as μ Q Q' h hS
  unfold S_X7_isTree at hS ⊢
  split at hS
  · exact ⟨hS.1, h _ _ hS.2⟩
  · exact hS.elim
def iX7_isTree : Inf := (kX7_isTree, fTX7, pTX7, cTX7, lTX7, sTX7, [])
theorem ok_X7_isTree : infOK iX7_isTree mX7_isTree RX7 0 0 := ⟨kkX7_isTree, fTX7_ok, pTX7_ok _, cTX7_ok, lTX7_ok, sTX7_ok, c_nil⟩
theorem mt_X7_isTree : mtOK [] RX7 0 0 := mt_nil
abbrev V_X7_isTree (R : Mem → Option AV → Prop) (pc : Nat) (lc : List (Nat × AV)) (μ : Mem) : Prop := VM mX7_isTree RX7 0 0 R pc lc [] μ
set_option maxRecDepth 20000 in
theorem vc_X7_isTree_0 {R : Mem → Option AV → Prop} {t : Int} {μ : Mem} (ht : isT t) (H : r32 (μ t 2) ∧ r32 ((μ t 1) - 1) ∧ ((¬ (μ t 2) = ((μ t 1) - 1)) → R μ (some (kI 0))) ∧ (¬ (¬ (μ t 2) = ((μ t 1) - 1)) → R μ (some (kI 1)))) : V_X7_isTree R 0 [(0, kR t)] μ := by
  refine vm_step2 mt_X7_isTree ok_X7_isTree [] 1000 ?_
  show isC t 7 ∧ isC t 7 ∧ (r32 (μ t 2) ∧ r32 ((μ t 1) - 1)) ∧ ((¬ (μ t 2) = ((μ t 1) - 1)) → (0 ≤ (0 : Int) ∧ (0 : Int) ≤ 1) ∧ R μ (some (kI 0))) ∧ (¬ (¬ (μ t 2) = ((μ t 1) - 1)) → (0 ≤ (1 : Int) ∧ (1 : Int) ≤ 1) ∧ R μ (some (kI 1)))
  exact ⟨isT_C ht, ⟨isT_C ht, ⟨⟨H.1, H.2.1⟩, fun hc1 => ⟨⟨by omega, by omega⟩, (H.2.2.1 hc1)⟩, fun hc1 => ⟨⟨by omega, by omega⟩, (H.2.2.2 hc1)⟩⟩⟩⟩
theorem body_X7_isTree {t : Int} {μ : Mem} {R : Mem → Option AV → Prop} (h : P_X7_isTree t μ) (hR : R μ (some (kI (F_X7_isTree t μ)))) : V_X7_isTree R 0 [(0, kR t)] μ := by
  obtain ⟨ht, h1, h2⟩ := h
  unfold F_X7_isTree at hR
  refine vc_X7_isTree_0 ht ?_
  repeat' (first | (intro _) | (refine And.intro ?_ ?_))
  all_goals first | exact h2.1 | exact h2.2 | omega | exact r_eq hR (by omega)
theorem ct_X7_isTree : Ct mX7_isTree 0 0 0 0 (nrmS S_X7_isTree) := by
  refine ct_vm (own := RX7) (by decide +kernel) rfl ?_ ?_
  · intro as μ Q hS
    unfold S_X7_isTree at hS
    split at hS
    · exact Nat.le_of_ble_eq_true rfl
    · exact hS.elim
  · intro as μ R hS
    unfold S_X7_isTree at hS
    split at hS
    · exact body_X7_isTree hS.1 hS.2
    · exact hS.elim
def TB (μ : Mem) (t : Int) : Prop := isT t ∧ TVok (tv μ t)
theorem e7 (μ : Mem) (t : Int) {a b : Int} (a0 : 0 ≤ a) (a1 : a < 8) (b0 : 0 ≤ b) (b1 : b < 8) : μ (t + 1) (a * 8 + b) = tv μ t 7 (8 * a + b) := by
  have e : a * 8 + b = 8 * a + b := by omega
  rw [e]
  exact (clip_in (f := μ (t + 1)) (by omega) (by omega)).symm
def P_X7_hasLane (t a b : Int) (μ : Mem) : Prop := TB μ t ∧ (0 ≤ a ∧ a < 8) ∧ (0 ≤ b ∧ b < 8)
def F_X7_hasLane (t a b : Int) (μ : Mem) : Int := if tv μ t 7 (8 * a + b) = 0 then 0 else 1
def S_X7_hasLane : S0t := fun as μ Q => match as with
  | [(2, x0), (0, x1), (0, x2)] => P_X7_hasLane x0 x1 x2 μ ∧ Q μ (some (kI (F_X7_hasLane x0 x1 x2 μ)))
  | _ => False
theorem mono_X7_hasLane : Mono S_X7_hasLane := by
  intro as μ Q Q' h hS
  unfold S_X7_hasLane at hS ⊢
  split at hS
  · exact ⟨hS.1, h _ _ hS.2⟩
  · exact hS.elim
def iX7_hasLane : Inf := (kX7_hasLane, fTX7, pTX7, cTX7, lTX7, sTX7, [])
theorem ok_X7_hasLane : infOK iX7_hasLane mX7_hasLane RX7 0 0 := ⟨kkX7_hasLane, fTX7_ok, pTX7_ok _, cTX7_ok, lTX7_ok, sTX7_ok, c_nil⟩
theorem mt_X7_hasLane : mtOK [] RX7 0 0 := mt_nil
abbrev V_X7_hasLane (R : Mem → Option AV → Prop) (pc : Nat) (lc : List (Nat × AV)) (μ : Mem) : Prop := VM mX7_hasLane RX7 0 0 R pc lc [] μ
set_option maxRecDepth 20000 in
theorem vc_X7_hasLane_0 {R : Mem → Option AV → Prop} {a b t : Int} {μ : Mem} (ht : isT t) (H : (0 ≤ ((a * 8) + b) ∧ ((a * 8) + b) < 64) ∧ r32 (μ (t + 1) ((a * 8) + b)) ∧ (((μ (t + 1) ((a * 8) + b)) = 0) → R μ (some (kI 0))) ∧ (¬ ((μ (t + 1) ((a * 8) + b)) = 0) → R μ (some (kI 1)))) : V_X7_hasLane R 0 [(0, kR t), (1, kI a), (2, kI b)] μ := by
  refine vm_step2 mt_X7_hasLane ok_X7_hasLane [] 1000 ?_
  show isC t 7 ∧ inA (t + 1) 0 ((a * 8) + b) ∧ r32 (μ (t + 1) ((a * 8) + b)) ∧ (((μ (t + 1) ((a * 8) + b)) = 0) → (0 ≤ (0 : Int) ∧ (0 : Int) ≤ 1) ∧ R μ (some (kI 0))) ∧ (¬ ((μ (t + 1) ((a * 8) + b)) = 0) → (0 ≤ (1 : Int) ∧ (1 : Int) ≤ 1) ∧ R μ (some (kI 1)))
  exact ⟨isT_C ht, ⟨isArr.in (T_minutes ht) H.1.1 H.1.2, ⟨H.2.1, fun hc1 => ⟨⟨by omega, by omega⟩, (H.2.2.1 hc1)⟩, fun hc1 => ⟨⟨by omega, by omega⟩, (H.2.2.2 hc1)⟩⟩⟩⟩
theorem body_X7_hasLane {t a b : Int} {μ : Mem} {R : Mem → Option AV → Prop} (h : P_X7_hasLane t a b μ) (hR : R μ (some (kI (F_X7_hasLane t a b μ)))) : V_X7_hasLane R 0 [(0, kR t), (1, kI a), (2, kI b)] μ := by
  obtain ⟨⟨ht, ok⟩, h1, h2⟩ := h
  have hm := ok.2.2.2.2.2.1 (8 * a + b) (by omega) (by omega)
  unfold F_X7_hasLane at hR
  refine vc_X7_hasLane_0 ht ?_
  rw [e7 μ t h1.1 h1.2 h2.1 h2.2]
  repeat' (first | (intro _) | (refine And.intro ?_ ?_))
  all_goals first | omega | exact r_eq hR (by omega)
theorem ct_X7_hasLane : Ct mX7_hasLane 0 0 0 0 (nrmS S_X7_hasLane) := by
  refine ct_vm (own := RX7) (by decide +kernel) rfl ?_ ?_
  · intro as μ Q hS
    unfold S_X7_hasLane at hS
    split at hS
    · exact Nat.le_of_ble_eq_true rfl
    · exact hS.elim
  · intro as μ R hS
    unfold S_X7_hasLane at hS
    split at hS
    · exact body_X7_hasLane hS.1 hS.2
    · exact hS.elim
def P_X7_lanesAt (t a : Int) (μ : Mem) : Prop := TB μ t ∧ (0 ≤ a ∧ a < 8)
def F_X7_lanesAt (t a : Int) (μ : Mem) : Int := lanesV (tv μ t) a
theorem lanesV_bd {v : TV} (ok : TVok v) {a : Int} : 0 ≤ lanesV v a ∧ lanesV v a ≤ 8 := by
  have h := sm_bd (f := fun b => if v 7 (8 * a + b) = 0 then 0 else 1) (n := v 0 0) (c := 0) (d := 1) (fun i _ _ => by
    show 0 ≤ (if v 7 (8 * a + i) = 0 then (0 : Int) else 1) ∧ (if v 7 (8 * a + i) = 0 then (0 : Int) else 1) ≤ 1
    omega) (by have := ok.1; omega)
  have := ok.1
  unfold lanesV
  omega
def S_X7_lanesAt : S0t := fun as μ Q => match as with
  | [(2, x0), (0, x1)] => P_X7_lanesAt x0 x1 μ ∧ Q μ (some (kI (F_X7_lanesAt x0 x1 μ)))
  | _ => False
theorem mono_X7_lanesAt : Mono S_X7_lanesAt := by
  intro as μ Q Q' h hS
  unfold S_X7_lanesAt at hS ⊢
  split at hS
  · exact ⟨hS.1, h _ _ hS.2⟩
  · exact hS.elim
def iX7_lanesAt : Inf := (kX7_lanesAt, fTX7, pTX7, cTX7, lTX7, sTX7, [(90, 0, 2, 7, S_X7_hasLane)])
theorem ok_X7_lanesAt : infOK iX7_lanesAt mX7_lanesAt RX7 1 22 := ⟨kkX7_lanesAt, fTX7_ok, pTX7_ok _, cTX7_ok, lTX7_ok, sTX7_ok, c_cons ⟨mX7_hasLane, 0, 0, ct_X7_hasLane, mmX7_hasLane, vvX7_hasLane, lkX7_90, ⟨by decide, by decide⟩, ⟨_, _, rfl⟩, by decide, mono_X7_hasLane⟩ (c_nil)⟩
theorem mt_X7_lanesAt : mtOK [] RX7 1 22 := mt_nil
abbrev V_X7_lanesAt (R : Mem → Option AV → Prop) (pc : Nat) (lc : List (Nat × AV)) (μ : Mem) : Prop := VM mX7_lanesAt RX7 1 22 R pc lc [] μ
set_option maxRecDepth 20000 in
theorem vc_X7_lanesAt_0 {R : Mem → Option AV → Prop} {a t : Int} {μ : Mem} (ht : isT t) (H : V_X7_lanesAt R 4 [(0, kR t), (1, kI a), (2, kI 0), (3, kI 0)] μ) : V_X7_lanesAt R 0 [(0, kR t), (1, kI a)] μ := by
  refine vm_step2 mt_X7_lanesAt ok_X7_lanesAt [(4, [0, 1, 2, 3])] 1000 ?_
  show V_X7_lanesAt R 4 [(0, kR t), (1, kI a), (2, kI 0), (3, kI 0)] μ
  exact H
set_option maxRecDepth 20000 in
theorem vc_X7_lanesAt_4 {R : Mem → Option AV → Prop} {a sum b t : Int} {μ : Mem} (ht : isT t) (H : r32 b ∧ r32 (μ t 1) ∧ (((μ t 1) ≤ b) → R μ (some (kI sum))) ∧ (¬ ((μ t 1) ≤ b) → P_X7_hasLane t a b μ ∧ r32 (F_X7_hasLane t a b μ) ∧ (((F_X7_hasLane t a b μ) = 0) → V_X7_lanesAt R 4 [(0, kR t), (1, kI a), (2, kI sum), (3, kI (b + 1))] μ) ∧ (¬ ((F_X7_hasLane t a b μ) = 0) → V_X7_lanesAt R 4 [(0, kR t), (1, kI a), (2, kI (sum + 1)), (3, kI (b + 1))] μ))) : V_X7_lanesAt R 4 [(0, kR t), (1, kI a), (2, kI sum), (3, kI b)] μ := by
  refine vm_step2 mt_X7_lanesAt ok_X7_lanesAt [(4, [0, 1, 2, 3])] 1000 ?_
  show isC t 7 ∧ (r32 b ∧ r32 (μ t 1)) ∧ (((μ t 1) ≤ b) → R μ (some (kI sum))) ∧ (¬ ((μ t 1) ≤ b) → isC t 7 ∧ P_X7_hasLane t a b μ ∧ r32 (F_X7_hasLane t a b μ) ∧ (((F_X7_hasLane t a b μ) = 0) → V_X7_lanesAt R 4 [(0, kR t), (1, kI a), (2, kI sum), (3, kI (b + 1))] μ) ∧ (¬ ((F_X7_hasLane t a b μ) = 0) → V_X7_lanesAt R 4 [(0, kR t), (1, kI a), (2, kI (sum + 1)), (3, kI (b + 1))] μ))
  exact ⟨isT_C ht, ⟨⟨H.1, H.2.1⟩, fun hc2 => (H.2.2.1 hc2), fun hc2 => ⟨isT_C ht, (H.2.2.2 hc2).1, ⟨(H.2.2.2 hc2).2.1, fun hc1 => ((H.2.2.2 hc2).2.2.1 hc1), fun hc1 => ((H.2.2.2 hc2).2.2.2 hc1)⟩⟩⟩⟩
theorem body_X7_lanesAt {t a : Int} {μ : Mem} {R : Mem → Option AV → Prop} (h : P_X7_lanesAt t a μ) (hR : R μ (some (kI (F_X7_lanesAt t a μ)))) : V_X7_lanesAt R 0 [(0, kR t), (1, kI a)] μ := by
  obtain ⟨⟨ht, ok⟩, ha⟩ := h
  have hp : 2 ≤ μ t 1 ∧ μ t 1 ≤ 8 := ok.1
  refine vc_X7_lanesAt_0 ht ?_
  refine up_ind (P := fun b => V_X7_lanesAt R 4 [(0, kR t), (1, kI a), (2, kI (sm (fun b => if tv μ t 7 (8 * a + b) = 0 then 0 else 1) b)), (3, kI b)] μ) (lo := 0) (hi := μ t 1) ?_ ?_ 0 (by omega) (by omega)
  · intro b h0 h1 ih
    rw [sm_s h0] at ih
    refine vc_X7_lanesAt_4 ht ⟨rr (by omega), rr (by omega), fun c => absurd c (by omega), fun _ => ⟨⟨⟨ht, ok⟩, ha, by omega⟩, ?_⟩⟩
    unfold F_X7_hasLane
    by_cases hz : tv μ t 7 (8 * a + b) = 0
    · simp only [hz, if_true, Int.add_zero] at ih ⊢
      exact ⟨rr (by omega), fun _ => ih, fun c => absurd trivial c⟩
    · simp only [hz, if_false] at ih ⊢
      exact ⟨rr (by omega), fun c => absurd c (by omega), fun _ => ih⟩
  · exact vc_X7_lanesAt_4 ht ⟨rr (by omega), rr (by omega), fun _ => hR, fun c => absurd (Int.le_refl _) c⟩
theorem ct_X7_lanesAt : Ct mX7_lanesAt 1 22 0 0 (nrmS S_X7_lanesAt) := by
  refine ct_vm (own := RX7) (by decide +kernel) rfl ?_ ?_
  · intro as μ Q hS
    unfold S_X7_lanesAt at hS
    split at hS
    · exact Nat.le_of_ble_eq_true rfl
    · exact hS.elim
  · intro as μ R hS
    unfold S_X7_lanesAt at hS
    split at hS
    · exact body_X7_lanesAt hS.1 hS.2
    · exact hS.elim
def aboutP (v : TV) (k : Int) : Int := if 10 ≤ k ∧ k < 10 + v 0 0 then v 4 (k - 10) else if 20 ≤ k ∧ k < 20 + v 0 0 then v 5 (k - 20) else if 30 ≤ k ∧ k < 30 + v 0 0 then v 6 (k - 30) else -1
def P_X7_tellOfPlace (t k : Int) (μ : Mem) : Prop := TB μ t ∧ r32 k
def F_X7_tellOfPlace (t k : Int) (μ : Mem) : Int := aboutP (tv μ t) k
theorem e4 (μ : Mem) (t : Int) {a : Int} (a0 : 0 ≤ a) (a1 : a < 8) : μ (t + 3) a = tv μ t 4 a := (clip_in (f := μ (t + 3)) a0 a1).symm
theorem e5 (μ : Mem) (t : Int) {a : Int} (a0 : 0 ≤ a) (a1 : a < 8) : μ (t + 4) a = tv μ t 5 a := (clip_in (f := μ (t + 4)) a0 a1).symm
theorem e6 (μ : Mem) (t : Int) {a : Int} (a0 : 0 ≤ a) (a1 : a < 8) : μ (t + 5) a = tv μ t 6 a := (clip_in (f := μ (t + 5)) a0 a1).symm
def S_X7_tellOfPlace : S0t := fun as μ Q => match as with
  | [(2, x0), (0, x1)] => P_X7_tellOfPlace x0 x1 μ ∧ Q μ (some (kI (F_X7_tellOfPlace x0 x1 μ)))
  | _ => False
theorem mono_X7_tellOfPlace : Mono S_X7_tellOfPlace := by
  intro as μ Q Q' h hS
  unfold S_X7_tellOfPlace at hS ⊢
  split at hS
  · exact ⟨hS.1, h _ _ hS.2⟩
  · exact hS.elim
def iX7_tellOfPlace : Inf := (kX7_tellOfPlace, fTX7, pTX7, cTX7, lTX7, sTX7, [])
theorem ok_X7_tellOfPlace : infOK iX7_tellOfPlace mX7_tellOfPlace RX7 0 0 := ⟨kkX7_tellOfPlace, fTX7_ok, pTX7_ok _, cTX7_ok, lTX7_ok, sTX7_ok, c_nil⟩
theorem mt_X7_tellOfPlace : mtOK [] RX7 0 0 := mt_nil
abbrev V_X7_tellOfPlace (R : Mem → Option AV → Prop) (pc : Nat) (lc : List (Nat × AV)) (μ : Mem) : Prop := VM mX7_tellOfPlace RX7 0 0 R pc lc [] μ
set_option maxRecDepth 20000 in
theorem vc_X7_tellOfPlace_0 {R : Mem → Option AV → Prop} {k t : Int} {μ : Mem} (ht : isT t) (H : r32 k ∧ ((k < (10 : Int)) → r32 k ∧ ((k < (20 : Int)) → r32 k ∧ ((k < (30 : Int)) → R μ (some (kI (-1)))) ∧ (¬ (k < (30 : Int)) → r32 k ∧ r32 (30 + (μ t 1)) ∧ (((30 + (μ t 1)) ≤ k) → R μ (some (kI (-1)))) ∧ (¬ ((30 + (μ t 1)) ≤ k) → (0 ≤ (k - 30) ∧ (k - 30) < 8) ∧ R μ (some (kI (μ (t + 5) (k - 30))))))) ∧ (¬ (k < (20 : Int)) → r32 k ∧ r32 (20 + (μ t 1)) ∧ (((20 + (μ t 1)) ≤ k) → r32 k ∧ ((k < (30 : Int)) → R μ (some (kI (-1)))) ∧ (¬ (k < (30 : Int)) → r32 k ∧ r32 (30 + (μ t 1)) ∧ (((30 + (μ t 1)) ≤ k) → R μ (some (kI (-1)))) ∧ (¬ ((30 + (μ t 1)) ≤ k) → (0 ≤ (k - 30) ∧ (k - 30) < 8) ∧ R μ (some (kI (μ (t + 5) (k - 30))))))) ∧ (¬ ((20 + (μ t 1)) ≤ k) → (0 ≤ (k - 20) ∧ (k - 20) < 8) ∧ R μ (some (kI (μ (t + 4) (k - 20))))))) ∧ (¬ (k < (10 : Int)) → r32 k ∧ r32 (10 + (μ t 1)) ∧ (((10 + (μ t 1)) ≤ k) → r32 k ∧ ((k < (20 : Int)) → r32 k ∧ ((k < (30 : Int)) → R μ (some (kI (-1)))) ∧ (¬ (k < (30 : Int)) → r32 k ∧ r32 (30 + (μ t 1)) ∧ (((30 + (μ t 1)) ≤ k) → R μ (some (kI (-1)))) ∧ (¬ ((30 + (μ t 1)) ≤ k) → (0 ≤ (k - 30) ∧ (k - 30) < 8) ∧ R μ (some (kI (μ (t + 5) (k - 30))))))) ∧ (¬ (k < (20 : Int)) → r32 k ∧ r32 (20 + (μ t 1)) ∧ (((20 + (μ t 1)) ≤ k) → r32 k ∧ ((k < (30 : Int)) → R μ (some (kI (-1)))) ∧ (¬ (k < (30 : Int)) → r32 k ∧ r32 (30 + (μ t 1)) ∧ (((30 + (μ t 1)) ≤ k) → R μ (some (kI (-1)))) ∧ (¬ ((30 + (μ t 1)) ≤ k) → (0 ≤ (k - 30) ∧ (k - 30) < 8) ∧ R μ (some (kI (μ (t + 5) (k - 30))))))) ∧ (¬ ((20 + (μ t 1)) ≤ k) → (0 ≤ (k - 20) ∧ (k - 20) < 8) ∧ R μ (some (kI (μ (t + 4) (k - 20))))))) ∧ (¬ ((10 + (μ t 1)) ≤ k) → (0 ≤ (k - 10) ∧ (k - 10) < 8) ∧ R μ (some (kI (μ (t + 3) (k - 10))))))) : V_X7_tellOfPlace R 0 [(0, kR t), (1, kI k)] μ := by
  refine vm_step2 mt_X7_tellOfPlace ok_X7_tellOfPlace [] 1000 ?_
  show (r32 k ∧ r32 (10 : Int)) ∧ ((k < (10 : Int)) → (r32 k ∧ r32 (20 : Int)) ∧ ((k < (20 : Int)) → (r32 k ∧ r32 (30 : Int)) ∧ ((k < (30 : Int)) → R μ (some (kI (-1)))) ∧ (¬ (k < (30 : Int)) → isC t 7 ∧ (r32 k ∧ r32 (30 + (μ t 1))) ∧ (((30 + (μ t 1)) ≤ k) → R μ (some (kI (-1)))) ∧ (¬ ((30 + (μ t 1)) ≤ k) → isC t 7 ∧ inA (t + 5) 0 (k - 30) ∧ R μ (some (kI (μ (t + 5) (k - 30))))))) ∧ (¬ (k < (20 : Int)) → isC t 7 ∧ (r32 k ∧ r32 (20 + (μ t 1))) ∧ (((20 + (μ t 1)) ≤ k) → (r32 k ∧ r32 (30 : Int)) ∧ ((k < (30 : Int)) → R μ (some (kI (-1)))) ∧ (¬ (k < (30 : Int)) → isC t 7 ∧ (r32 k ∧ r32 (30 + (μ t 1))) ∧ (((30 + (μ t 1)) ≤ k) → R μ (some (kI (-1)))) ∧ (¬ ((30 + (μ t 1)) ≤ k) → isC t 7 ∧ inA (t + 5) 0 (k - 30) ∧ R μ (some (kI (μ (t + 5) (k - 30))))))) ∧ (¬ ((20 + (μ t 1)) ≤ k) → isC t 7 ∧ inA (t + 4) 0 (k - 20) ∧ R μ (some (kI (μ (t + 4) (k - 20))))))) ∧ (¬ (k < (10 : Int)) → isC t 7 ∧ (r32 k ∧ r32 (10 + (μ t 1))) ∧ (((10 + (μ t 1)) ≤ k) → (r32 k ∧ r32 (20 : Int)) ∧ ((k < (20 : Int)) → (r32 k ∧ r32 (30 : Int)) ∧ ((k < (30 : Int)) → R μ (some (kI (-1)))) ∧ (¬ (k < (30 : Int)) → isC t 7 ∧ (r32 k ∧ r32 (30 + (μ t 1))) ∧ (((30 + (μ t 1)) ≤ k) → R μ (some (kI (-1)))) ∧ (¬ ((30 + (μ t 1)) ≤ k) → isC t 7 ∧ inA (t + 5) 0 (k - 30) ∧ R μ (some (kI (μ (t + 5) (k - 30))))))) ∧ (¬ (k < (20 : Int)) → isC t 7 ∧ (r32 k ∧ r32 (20 + (μ t 1))) ∧ (((20 + (μ t 1)) ≤ k) → (r32 k ∧ r32 (30 : Int)) ∧ ((k < (30 : Int)) → R μ (some (kI (-1)))) ∧ (¬ (k < (30 : Int)) → isC t 7 ∧ (r32 k ∧ r32 (30 + (μ t 1))) ∧ (((30 + (μ t 1)) ≤ k) → R μ (some (kI (-1)))) ∧ (¬ ((30 + (μ t 1)) ≤ k) → isC t 7 ∧ inA (t + 5) 0 (k - 30) ∧ R μ (some (kI (μ (t + 5) (k - 30))))))) ∧ (¬ ((20 + (μ t 1)) ≤ k) → isC t 7 ∧ inA (t + 4) 0 (k - 20) ∧ R μ (some (kI (μ (t + 4) (k - 20))))))) ∧ (¬ ((10 + (μ t 1)) ≤ k) → isC t 7 ∧ inA (t + 3) 0 (k - 10) ∧ R μ (some (kI (μ (t + 3) (k - 10))))))
  exact ⟨⟨H.1, by unfold r32; omega⟩, fun hc14 => ⟨⟨(H.2.1 hc14).1, by unfold r32; omega⟩, fun hc6 => ⟨⟨((H.2.1 hc14).2.1 hc6).1, by unfold r32; omega⟩, fun hc2 => (((H.2.1 hc14).2.1 hc6).2.1 hc2), fun hc2 => ⟨isT_C ht, ⟨⟨(((H.2.1 hc14).2.1 hc6).2.2 hc2).1, (((H.2.1 hc14).2.1 hc6).2.2 hc2).2.1⟩, fun hc1 => ((((H.2.1 hc14).2.1 hc6).2.2 hc2).2.2.1 hc1), fun hc1 => ⟨isT_C ht, ⟨isArr.in (T_dig ht) ((((H.2.1 hc14).2.1 hc6).2.2 hc2).2.2.2 hc1).1.1 ((((H.2.1 hc14).2.1 hc6).2.2 hc2).2.2.2 hc1).1.2, ((((H.2.1 hc14).2.1 hc6).2.2 hc2).2.2.2 hc1).2⟩⟩⟩⟩⟩, fun hc6 => ⟨isT_C ht, ⟨⟨((H.2.1 hc14).2.2 hc6).1, ((H.2.1 hc14).2.2 hc6).2.1⟩, fun hc5 => ⟨⟨(((H.2.1 hc14).2.2 hc6).2.2.1 hc5).1, by unfold r32; omega⟩, fun hc4 => ((((H.2.1 hc14).2.2 hc6).2.2.1 hc5).2.1 hc4), fun hc4 => ⟨isT_C ht, ⟨⟨((((H.2.1 hc14).2.2 hc6).2.2.1 hc5).2.2 hc4).1, ((((H.2.1 hc14).2.2 hc6).2.2.1 hc5).2.2 hc4).2.1⟩, fun hc3 => (((((H.2.1 hc14).2.2 hc6).2.2.1 hc5).2.2 hc4).2.2.1 hc3), fun hc3 => ⟨isT_C ht, ⟨isArr.in (T_dig ht) (((((H.2.1 hc14).2.2 hc6).2.2.1 hc5).2.2 hc4).2.2.2 hc3).1.1 (((((H.2.1 hc14).2.2 hc6).2.2.1 hc5).2.2 hc4).2.2.2 hc3).1.2, (((((H.2.1 hc14).2.2 hc6).2.2.1 hc5).2.2 hc4).2.2.2 hc3).2⟩⟩⟩⟩⟩, fun hc5 => ⟨isT_C ht, ⟨isArr.in (T_dog ht) (((H.2.1 hc14).2.2 hc6).2.2.2 hc5).1.1 (((H.2.1 hc14).2.2 hc6).2.2.2 hc5).1.2, (((H.2.1 hc14).2.2 hc6).2.2.2 hc5).2⟩⟩⟩⟩⟩, fun hc14 => ⟨isT_C ht, ⟨⟨(H.2.2 hc14).1, (H.2.2 hc14).2.1⟩, fun hc13 => ⟨⟨((H.2.2 hc14).2.2.1 hc13).1, by unfold r32; omega⟩, fun hc12 => ⟨⟨(((H.2.2 hc14).2.2.1 hc13).2.1 hc12).1, by unfold r32; omega⟩, fun hc8 => ((((H.2.2 hc14).2.2.1 hc13).2.1 hc12).2.1 hc8), fun hc8 => ⟨isT_C ht, ⟨⟨((((H.2.2 hc14).2.2.1 hc13).2.1 hc12).2.2 hc8).1, ((((H.2.2 hc14).2.2.1 hc13).2.1 hc12).2.2 hc8).2.1⟩, fun hc7 => (((((H.2.2 hc14).2.2.1 hc13).2.1 hc12).2.2 hc8).2.2.1 hc7), fun hc7 => ⟨isT_C ht, ⟨isArr.in (T_dig ht) (((((H.2.2 hc14).2.2.1 hc13).2.1 hc12).2.2 hc8).2.2.2 hc7).1.1 (((((H.2.2 hc14).2.2.1 hc13).2.1 hc12).2.2 hc8).2.2.2 hc7).1.2, (((((H.2.2 hc14).2.2.1 hc13).2.1 hc12).2.2 hc8).2.2.2 hc7).2⟩⟩⟩⟩⟩, fun hc12 => ⟨isT_C ht, ⟨⟨(((H.2.2 hc14).2.2.1 hc13).2.2 hc12).1, (((H.2.2 hc14).2.2.1 hc13).2.2 hc12).2.1⟩, fun hc11 => ⟨⟨((((H.2.2 hc14).2.2.1 hc13).2.2 hc12).2.2.1 hc11).1, by unfold r32; omega⟩, fun hc10 => (((((H.2.2 hc14).2.2.1 hc13).2.2 hc12).2.2.1 hc11).2.1 hc10), fun hc10 => ⟨isT_C ht, ⟨⟨(((((H.2.2 hc14).2.2.1 hc13).2.2 hc12).2.2.1 hc11).2.2 hc10).1, (((((H.2.2 hc14).2.2.1 hc13).2.2 hc12).2.2.1 hc11).2.2 hc10).2.1⟩, fun hc9 => ((((((H.2.2 hc14).2.2.1 hc13).2.2 hc12).2.2.1 hc11).2.2 hc10).2.2.1 hc9), fun hc9 => ⟨isT_C ht, ⟨isArr.in (T_dig ht) ((((((H.2.2 hc14).2.2.1 hc13).2.2 hc12).2.2.1 hc11).2.2 hc10).2.2.2 hc9).1.1 ((((((H.2.2 hc14).2.2.1 hc13).2.2 hc12).2.2.1 hc11).2.2 hc10).2.2.2 hc9).1.2, ((((((H.2.2 hc14).2.2.1 hc13).2.2 hc12).2.2.1 hc11).2.2 hc10).2.2.2 hc9).2⟩⟩⟩⟩⟩, fun hc11 => ⟨isT_C ht, ⟨isArr.in (T_dog ht) ((((H.2.2 hc14).2.2.1 hc13).2.2 hc12).2.2.2 hc11).1.1 ((((H.2.2 hc14).2.2.1 hc13).2.2 hc12).2.2.2 hc11).1.2, ((((H.2.2 hc14).2.2.1 hc13).2.2 hc12).2.2.2 hc11).2⟩⟩⟩⟩⟩, fun hc13 => ⟨isT_C ht, ⟨isArr.in (T_chance ht) ((H.2.2 hc14).2.2.2 hc13).1.1 ((H.2.2 hc14).2.2.2 hc13).1.2, ((H.2.2 hc14).2.2.2 hc13).2⟩⟩⟩⟩⟩
theorem body_X7_tellOfPlace {t k : Int} {μ : Mem} {R : Mem → Option AV → Prop} (h : P_X7_tellOfPlace t k μ) (hR : R μ (some (kI (F_X7_tellOfPlace t k μ)))) : V_X7_tellOfPlace R 0 [(0, kR t), (1, kI k)] μ := by
  obtain ⟨⟨ht, ok⟩, hk⟩ := h
  have hp : 2 ≤ μ t 1 ∧ μ t 1 ≤ 8 := ok.1
  have hk' : -2147483648 ≤ k ∧ k ≤ 2147483647 := hk
  have e0 : tv μ t 0 0 = μ t 1 := rfl
  unfold F_X7_tellOfPlace aboutP at hR
  rw [e0] at hR
  refine vc_X7_tellOfPlace_0 ht ?_
  repeat' (first | (intro _) | (refine And.intro ?_ ?_))
  all_goals first
    | omega
    | (rw [if_pos (by omega)] at hR; rw [e4 μ t (by omega) (by omega)]; exact hR)
    | (rw [if_neg (by omega), if_pos (by omega)] at hR; rw [e5 μ t (by omega) (by omega)]; exact hR)
    | (rw [if_neg (by omega), if_neg (by omega), if_pos (by omega)] at hR; rw [e6 μ t (by omega) (by omega)]; exact hR)
    | (rw [if_neg (by omega), if_neg (by omega), if_neg (by omega)] at hR; exact hR)
theorem ct_X7_tellOfPlace : Ct mX7_tellOfPlace 0 0 0 0 (nrmS S_X7_tellOfPlace) := by
  refine ct_vm (own := RX7) (by decide +kernel) rfl ?_ ?_
  · intro as μ Q hS
    unfold S_X7_tellOfPlace at hS
    split at hS
    · exact Nat.le_of_ble_eq_true rfl
    · exact hS.elim
  · intro as μ R hS
    unfold S_X7_tellOfPlace at hS
    split at hS
    · exact body_X7_tellOfPlace hS.1 hS.2
    · exact hS.elim
/-- ABOUT; the chances together and the set of the cellars are given -/
def aboutV (v : TV) (all cel k : Int) : Int := if k = 0 then v 0 0 else if k = 1 then v 1 0 else if k = 2 then all else if k = 3 then cel else if k = 4 then v 2 0 else if k = 5 then v 3 0 else if k = 6 then v 8 0 else if k = 7 then v 12 0 else aboutP v k
def P_X7_tell (t k : Int) (μ : Mem) : Prop := TB μ t ∧ r32 k
def F_X7_tell (t k : Int) (μ : Mem) : Int := aboutV (tv μ t) (μ t 3) (μ t 4) k
def S_X7_tell : S0t := fun as μ Q => match as with
  | [(2, x0), (0, x1)] => P_X7_tell x0 x1 μ ∧ Q μ (some (kI (F_X7_tell x0 x1 μ)))
  | _ => False
theorem mono_X7_tell : Mono S_X7_tell := by
  intro as μ Q Q' h hS
  unfold S_X7_tell at hS ⊢
  split at hS
  · exact ⟨hS.1, h _ _ hS.2⟩
  · exact hS.elim
def iX7_tell : Inf := (kX7_tell, fTX7, pTX7, cTX7, lTX7, sTX7, [(79, 0, 1, 7, S_X7_tellOfPlace)])
theorem ok_X7_tell : infOK iX7_tell mX7_tell RX7 1 21 := ⟨kkX7_tell, fTX7_ok, pTX7_ok _, cTX7_ok, lTX7_ok, sTX7_ok, c_cons ⟨mX7_tellOfPlace, 0, 0, ct_X7_tellOfPlace, mmX7_tellOfPlace, vvX7_tellOfPlace, lkX7_79, ⟨by decide, by decide⟩, ⟨_, _, rfl⟩, by decide, mono_X7_tellOfPlace⟩ (c_nil)⟩
theorem mt_X7_tell : mtOK [] RX7 1 21 := mt_nil
abbrev V_X7_tell (R : Mem → Option AV → Prop) (pc : Nat) (lc : List (Nat × AV)) (μ : Mem) : Prop := VM mX7_tell RX7 1 21 R pc lc [] μ
set_option maxRecDepth 20000 in
theorem vc_X7_tell_0 {R : Mem → Option AV → Prop} {k t : Int} {μ : Mem} (ht : isT t) (H : r32 k ∧ (k < 0 ∨ 7 < k → P_X7_tellOfPlace t k μ ∧ R μ (some (kI (F_X7_tellOfPlace t k μ)))) ∧ (k = 0 → R μ (some (kI (μ t 1)))) ∧ (k = 1 → R μ (some (kI (μ t 2)))) ∧ (k = 2 → R μ (some (kI (μ t 3)))) ∧ (k = 3 → R μ (some (kI (μ t 4)))) ∧ (k = 4 → R μ (some (kI (μ t 5)))) ∧ (k = 5 → R μ (some (kI (μ t 6)))) ∧ (k = 6 → R μ (some (kI (μ t 12)))) ∧ (k = 7 → R μ (some (kI (μ t 16))))) : V_X7_tell R 0 [(0, kR t), (1, kI k)] μ := by
  refine vm_step2 mt_X7_tell ok_X7_tell [] 1000 ?_
  show r32 k ∧ (k < 0 ∨ 7 < k → isC t 7 ∧ P_X7_tellOfPlace t k μ ∧ R μ (some (kI (F_X7_tellOfPlace t k μ)))) ∧ (k = 0 → isC t 7 ∧ R μ (some (kI (μ t 1)))) ∧ (k = 1 → isC t 7 ∧ R μ (some (kI (μ t 2)))) ∧ (k = 2 → isC t 7 ∧ R μ (some (kI (μ t 3)))) ∧ (k = 3 → isC t 7 ∧ R μ (some (kI (μ t 4)))) ∧ (k = 4 → isC t 7 ∧ R μ (some (kI (μ t 5)))) ∧ (k = 5 → isC t 7 ∧ R μ (some (kI (μ t 6)))) ∧ (k = 6 → isC t 7 ∧ R μ (some (kI (μ t 12)))) ∧ (k = 7 → isC t 7 ∧ R μ (some (kI (μ t 16)))) ∧ True
  exact ⟨H.1, fun hc1 => ⟨isT_C ht, (H.2.1 hc1).1, (H.2.1 hc1).2⟩, fun hc1 => ⟨isT_C ht, (H.2.2.1 hc1)⟩, fun hc1 => ⟨isT_C ht, (H.2.2.2.1 hc1)⟩, fun hc1 => ⟨isT_C ht, (H.2.2.2.2.1 hc1)⟩, fun hc1 => ⟨isT_C ht, (H.2.2.2.2.2.1 hc1)⟩, fun hc1 => ⟨isT_C ht, (H.2.2.2.2.2.2.1 hc1)⟩, fun hc1 => ⟨isT_C ht, (H.2.2.2.2.2.2.2.1 hc1)⟩, fun hc1 => ⟨isT_C ht, (H.2.2.2.2.2.2.2.2.1 hc1)⟩, fun hc1 => ⟨isT_C ht, (H.2.2.2.2.2.2.2.2.2 hc1)⟩, trivial⟩
theorem body_X7_tell {t k : Int} {μ : Mem} {R : Mem → Option AV → Prop} (h : P_X7_tell t k μ) (hR : R μ (some (kI (F_X7_tell t k μ)))) : V_X7_tell R 0 [(0, kR t), (1, kI k)] μ := by
  obtain ⟨⟨ht, ok⟩, hk⟩ := h
  unfold F_X7_tell aboutV at hR
  refine vc_X7_tell_0 ht ⟨hk, fun c => ⟨⟨⟨ht, ok⟩, hk⟩, r_eq hR ?_⟩, ?_⟩
  · unfold F_X7_tellOfPlace
    rw [if_neg (by omega), if_neg (by omega), if_neg (by omega), if_neg (by omega), if_neg (by omega), if_neg (by omega), if_neg (by omega), if_neg (by omega)]
  · refine ⟨?_, ?_, ?_, ?_, ?_, ?_, ?_, ?_⟩ <;> (intro c; subst c; exact hR)
theorem ct_X7_tell : Ct mX7_tell 1 21 0 0 (nrmS S_X7_tell) := by
  refine ct_vm (own := RX7) (by decide +kernel) rfl ?_ ?_
  · intro as μ Q hS
    unfold S_X7_tell at hS
    split at hS
    · exact Nat.le_of_ble_eq_true rfl
    · exact hS.elim
  · intro as μ R hS
    unfold S_X7_tell at hS
    split at hS
    · exact body_X7_tell hS.1 hS.2
    · exact hS.elim
def P_X7_isJoined (t : Int) (μ : Mem) : Prop := isT t ∧ (2 ≤ μ t 1 ∧ μ t 1 ≤ 8) ∧ ∀ a : Int, 0 ≤ a → a < μ t 1 → r32 (μ (t + 2) a)
/-- whether all of the first n hold -/
def allV (q : Int → Bool) (n : Int) : Bool := fold (fun s i => s && q i) true n
theorem allV_s {q : Int → Bool} {n : Int} (h : 0 ≤ n) : allV q (n + 1) = (allV q n && q n) := fold_s h
theorem allV_ok {q : Int → Bool} {n : Int} (hn : 0 ≤ n) : allV q n = true ↔ ∀ i, 0 ≤ i → i < n → q i = true := by
  refine fold_ind (P := fun k (s : Bool) => s = true ↔ ∀ i, 0 ≤ i → i < k → q i = true) ⟨fun _ i a b => absurd a (by omega), fun _ => rfl⟩ (fun k s k0 _ ih => ?_) hn
  rw [Bool.and_eq_true, ih]
  constructor
  · intro h i i0 i1
    by_cases hi : i = k
    · rw [hi]; exact h.2
    · exact h.1 i i0 (by omega)
  · intro h
    exact ⟨fun i i0 i1 => h i i0 (by omega), h k k0 (by omega)⟩
def F_X7_isJoined (t : Int) (μ : Mem) : Int := if allV (fun a => decide (μ (t + 2) a < 1000000)) (μ t 1) = true then 1 else 0
def S_X7_isJoined : S0t := fun as μ Q => match as with
  | [(2, x0)] => P_X7_isJoined x0 μ ∧ Q μ (some (kI (F_X7_isJoined x0 μ)))
  | _ => False
theorem mono_X7_isJoined : Mono S_X7_isJoined := by
  intro as μ Q Q' h hS
  unfold S_X7_isJoined at hS ⊢
  split at hS
  · exact ⟨hS.1, h _ _ hS.2⟩
  · exact hS.elim
def iX7_isJoined : Inf := (kX7_isJoined, fTX7, pTX7, cTX7, lTX7, sTX7, [])
theorem ok_X7_isJoined : infOK iX7_isJoined mX7_isJoined RX7 0 0 := ⟨kkX7_isJoined, fTX7_ok, pTX7_ok _, cTX7_ok, lTX7_ok, sTX7_ok, c_nil⟩
theorem mt_X7_isJoined : mtOK [] RX7 0 0 := mt_nil
abbrev V_X7_isJoined (R : Mem → Option AV → Prop) (pc : Nat) (lc : List (Nat × AV)) (μ : Mem) : Prop := VM mX7_isJoined RX7 0 0 R pc lc [] μ
set_option maxRecDepth 20000 in
theorem vc_X7_isJoined_0 {R : Mem → Option AV → Prop} {t : Int} {μ : Mem} (ht : isT t) (H : V_X7_isJoined R 2 [(0, kR t), (1, kI 0)] μ) : V_X7_isJoined R 0 [(0, kR t)] μ := by
  refine vm_step2 mt_X7_isJoined ok_X7_isJoined [(2, [0, 1])] 1000 ?_
  show V_X7_isJoined R 2 [(0, kR t), (1, kI 0)] μ
  exact H
set_option maxRecDepth 20000 in
theorem vc_X7_isJoined_2 {R : Mem → Option AV → Prop} {a t : Int} {μ : Mem} (ht : isT t) (H : r32 a ∧ r32 (μ t 1) ∧ (((μ t 1) ≤ a) → R μ (some (kI 1))) ∧ (¬ ((μ t 1) ≤ a) → (0 ≤ a ∧ a < 64) ∧ r32 (μ (t + 2) a) ∧ (((μ (t + 2) a) < (1000000 : Int)) → V_X7_isJoined R 2 [(0, kR t), (1, kI (a + 1))] μ) ∧ (¬ ((μ (t + 2) a) < (1000000 : Int)) → R μ (some (kI 0))))) : V_X7_isJoined R 2 [(0, kR t), (1, kI a)] μ := by
  refine vm_step2 mt_X7_isJoined ok_X7_isJoined [(2, [0, 1])] 1000 ?_
  show isC t 7 ∧ (r32 a ∧ r32 (μ t 1)) ∧ (((μ t 1) ≤ a) → (0 ≤ (1 : Int) ∧ (1 : Int) ≤ 1) ∧ R μ (some (kI 1))) ∧ (¬ ((μ t 1) ≤ a) → isC t 7 ∧ inA (t + 2) 0 a ∧ (r32 (μ (t + 2) a) ∧ r32 (1000000 : Int)) ∧ (((μ (t + 2) a) < (1000000 : Int)) → V_X7_isJoined R 2 [(0, kR t), (1, kI (a + 1))] μ) ∧ (¬ ((μ (t + 2) a) < (1000000 : Int)) → (0 ≤ (0 : Int) ∧ (0 : Int) ≤ 1) ∧ R μ (some (kI 0))))
  exact ⟨isT_C ht, ⟨⟨H.1, H.2.1⟩, fun hc2 => ⟨⟨by omega, by omega⟩, (H.2.2.1 hc2)⟩, fun hc2 => ⟨isT_C ht, ⟨isArr.in (T_ways ht) (H.2.2.2 hc2).1.1 (H.2.2.2 hc2).1.2, ⟨⟨(H.2.2.2 hc2).2.1, by unfold r32; omega⟩, fun hc1 => ((H.2.2.2 hc2).2.2.1 hc1), fun hc1 => ⟨⟨by omega, by omega⟩, ((H.2.2.2 hc2).2.2.2 hc1)⟩⟩⟩⟩⟩⟩
theorem body_X7_isJoined {t : Int} {μ : Mem} {R : Mem → Option AV → Prop} (h : P_X7_isJoined t μ) (hR : R μ (some (kI (F_X7_isJoined t μ)))) : V_X7_isJoined R 0 [(0, kR t)] μ := by
  obtain ⟨ht, hp, hr⟩ := h
  refine vc_X7_isJoined_0 ht ?_
  refine up_ind (P := fun a => (∀ i, 0 ≤ i → i < a → μ (t + 2) i < 1000000) → V_X7_isJoined R 2 [(0, kR t), (1, kI a)] μ) (lo := 0) (hi := μ t 1) ?_ ?_ 0 (by omega) (by omega) (fun i a b => absurd a (by omega))
  · intro a h0 h1 ih hall
    refine vc_X7_isJoined_2 ht ⟨rr (by omega), rr (by omega), fun c => absurd c (by omega), fun _ => ⟨⟨h0, by omega⟩, hr a h0 (by omega), fun c => ?_, fun c => r_eq hR ?_⟩⟩
    · refine ih (fun i i0 i1 => ?_)
      by_cases hi : i = a
      · rw [hi]; exact c
      · exact hall i i0 (by omega)
    · unfold F_X7_isJoined
      rw [if_neg]
      intro q
      rw [allV_ok (by omega)] at q
      exact c (of_decide_eq_true (q a h0 h1))
  · intro hall
    refine vc_X7_isJoined_2 ht ⟨rr (by omega), rr (by omega), fun _ => r_eq hR ?_, fun c => absurd (Int.le_refl _) c⟩
    unfold F_X7_isJoined
    rw [if_pos]
    rw [allV_ok (by omega)]
    exact fun i i0 i1 => decide_eq_true (hall i i0 i1)
theorem ct_X7_isJoined : Ct mX7_isJoined 0 0 0 0 (nrmS S_X7_isJoined) := by
  refine ct_vm (own := RX7) (by decide +kernel) rfl ?_ ?_
  · intro as μ Q hS
    unfold S_X7_isJoined at hS
    split at hS
    · exact Nat.le_of_ble_eq_true rfl
    · exact hS.elim
  · intro as μ R hS
    unfold S_X7_isJoined at hS
    split at hS
    · exact body_X7_isJoined hS.1 hS.2
    · exact hS.elim
def P_X7_isCrowded (t : Int) (μ : Mem) : Prop := TB μ t
def F_X7_isCrowded (t : Int) (μ : Mem) : Int := if allV (fun a => decide (lanesV (tv μ t) a * tv μ t 3 0 ≤ 12)) (tv μ t 0 0) = true then 0 else 1
def S_X7_isCrowded : S0t := fun as μ Q => match as with
  | [(2, x0)] => P_X7_isCrowded x0 μ ∧ Q μ (some (kI (F_X7_isCrowded x0 μ)))
  | _ => False
theorem mono_X7_isCrowded : Mono S_X7_isCrowded := by
  intro as μ Q Q' h hS
  unfold S_X7_isCrowded at hS ⊢
  split at hS
  · exact ⟨hS.1, h _ _ hS.2⟩
  · exact hS.elim
def iX7_isCrowded : Inf := (kX7_isCrowded, fTX7, pTX7, cTX7, lTX7, sTX7, [(94, 0, 1, 7, S_X7_lanesAt)])
theorem ok_X7_isCrowded : infOK iX7_isCrowded mX7_isCrowded RX7 2 45 := ⟨kkX7_isCrowded, fTX7_ok, pTX7_ok _, cTX7_ok, lTX7_ok, sTX7_ok, c_cons ⟨mX7_lanesAt, 1, 22, ct_X7_lanesAt, mmX7_lanesAt, vvX7_lanesAt, lkX7_94, ⟨by decide, by decide⟩, ⟨_, _, rfl⟩, by decide, mono_X7_lanesAt⟩ (c_nil)⟩
theorem mt_X7_isCrowded : mtOK [] RX7 2 45 := mt_nil
abbrev V_X7_isCrowded (R : Mem → Option AV → Prop) (pc : Nat) (lc : List (Nat × AV)) (μ : Mem) : Prop := VM mX7_isCrowded RX7 2 45 R pc lc [] μ
set_option maxRecDepth 20000 in
theorem vc_X7_isCrowded_0 {R : Mem → Option AV → Prop} {t : Int} {μ : Mem} (ht : isT t) (H : V_X7_isCrowded R 2 [(0, kR t), (1, kI 0)] μ) : V_X7_isCrowded R 0 [(0, kR t)] μ := by
  refine vm_step2 mt_X7_isCrowded ok_X7_isCrowded [(2, [0, 1])] 1000 ?_
  show V_X7_isCrowded R 2 [(0, kR t), (1, kI 0)] μ
  exact H
set_option maxRecDepth 20000 in
theorem vc_X7_isCrowded_2 {R : Mem → Option AV → Prop} {a t : Int} {μ : Mem} (ht : isT t) (H : r32 a ∧ r32 (μ t 1) ∧ (((μ t 1) ≤ a) → R μ (some (kI 0))) ∧ (¬ ((μ t 1) ≤ a) → P_X7_lanesAt t a μ ∧ r32 ((F_X7_lanesAt t a μ) * (μ t 6)) ∧ ((((F_X7_lanesAt t a μ) * (μ t 6)) ≤ (12 : Int)) → V_X7_isCrowded R 2 [(0, kR t), (1, kI (a + 1))] μ) ∧ (¬ (((F_X7_lanesAt t a μ) * (μ t 6)) ≤ (12 : Int)) → R μ (some (kI 1))))) : V_X7_isCrowded R 2 [(0, kR t), (1, kI a)] μ := by
  refine vm_step2 mt_X7_isCrowded ok_X7_isCrowded [(2, [0, 1])] 1000 ?_
  show isC t 7 ∧ (r32 a ∧ r32 (μ t 1)) ∧ (((μ t 1) ≤ a) → (0 ≤ (0 : Int) ∧ (0 : Int) ≤ 1) ∧ R μ (some (kI 0))) ∧ (¬ ((μ t 1) ≤ a) → isC t 7 ∧ P_X7_lanesAt t a μ ∧ isC t 7 ∧ (r32 ((F_X7_lanesAt t a μ) * (μ t 6)) ∧ r32 (12 : Int)) ∧ ((((F_X7_lanesAt t a μ) * (μ t 6)) ≤ (12 : Int)) → V_X7_isCrowded R 2 [(0, kR t), (1, kI (a + 1))] μ) ∧ (¬ (((F_X7_lanesAt t a μ) * (μ t 6)) ≤ (12 : Int)) → (0 ≤ (1 : Int) ∧ (1 : Int) ≤ 1) ∧ R μ (some (kI 1))))
  exact ⟨isT_C ht, ⟨⟨H.1, H.2.1⟩, fun hc2 => ⟨⟨by omega, by omega⟩, (H.2.2.1 hc2)⟩, fun hc2 => ⟨isT_C ht, (H.2.2.2 hc2).1, ⟨isT_C ht, ⟨⟨(H.2.2.2 hc2).2.1, by unfold r32; omega⟩, fun hc1 => ((H.2.2.2 hc2).2.2.1 hc1), fun hc1 => ⟨⟨by omega, by omega⟩, ((H.2.2.2 hc2).2.2.2 hc1)⟩⟩⟩⟩⟩⟩
theorem body_X7_isCrowded {t : Int} {μ : Mem} {R : Mem → Option AV → Prop} (h : P_X7_isCrowded t μ) (hR : R μ (some (kI (F_X7_isCrowded t μ)))) : V_X7_isCrowded R 0 [(0, kR t)] μ := by
  obtain ⟨ht, ok⟩ := h
  have hp : 2 ≤ μ t 1 ∧ μ t 1 ≤ 8 := ok.1
  have hm : 0 ≤ μ t 6 ∧ μ t 6 ≤ 12 := ok.2.2.1
  refine vc_X7_isCrowded_0 ht ?_
  refine up_ind (P := fun a => (∀ i, 0 ≤ i → i < a → lanesV (tv μ t) i * μ t 6 ≤ 12) → V_X7_isCrowded R 2 [(0, kR t), (1, kI a)] μ) (lo := 0) (hi := μ t 1) ?_ ?_ 0 (by omega) (by omega) (fun i a b => absurd a (by omega))
  · intro a h0 h1 ih hall
    have hb := lanesV_bd ok (a := a)
    have hmul : 0 ≤ lanesV (tv μ t) a * μ t 6 ∧ lanesV (tv μ t) a * μ t 6 ≤ 96 := by
      have h1 : lanesV (tv μ t) a * μ t 6 ≤ 8 * 12 := Int.mul_le_mul hb.2 hm.2 hm.1 (by omega)
      have h2 : 0 ≤ lanesV (tv μ t) a * μ t 6 := Int.mul_nonneg hb.1 hm.1
      omega
    refine vc_X7_isCrowded_2 ht ⟨rr (by omega), rr (by omega), fun c => absurd c (by omega), fun _ => ⟨⟨⟨ht, ok⟩, h0, by omega⟩, ?_⟩⟩
    unfold F_X7_lanesAt
    refine ⟨rr (by omega), fun c => ?_, fun c => r_eq hR ?_⟩
    · refine ih (fun i i0 i1 => ?_)
      by_cases hi : i = a
      · rw [hi]; exact c
      · exact hall i i0 (by omega)
    · unfold F_X7_isCrowded
      rw [if_neg]
      intro q
      rw [allV_ok (by show 0 ≤ μ t 1; omega)] at q
      exact c (of_decide_eq_true (q a h0 h1))
  · intro hall
    refine vc_X7_isCrowded_2 ht ⟨rr (by omega), rr (by omega), fun _ => r_eq hR ?_, fun c => absurd (Int.le_refl _) c⟩
    unfold F_X7_isCrowded
    rw [if_pos]
    rw [allV_ok (by show 0 ≤ μ t 1; omega)]
    exact fun i i0 i1 => decide_eq_true (hall i i0 i1)
theorem ct_X7_isCrowded : Ct mX7_isCrowded 2 45 0 0 (nrmS S_X7_isCrowded) := by
  refine ct_vm (own := RX7) (by decide +kernel) rfl ?_ ?_
  · intro as μ Q hS
    unfold S_X7_isCrowded at hS
    split at hS
    · exact Nat.le_of_ble_eq_true rfl
    · exact hS.elim
  · intro as μ R hS
    unfold S_X7_isCrowded at hS
    split at hS
    · exact body_X7_isCrowded hS.1 hS.2
    · exact hS.elim
/-- the minutes of all lanes together -/
def allMinV (v : TV) : Int := fold (fun s a => s + (sm (fun b => v 7 (8 * a + b)) (v 0 0) - sm (fun b => v 7 (8 * a + b)) (min (a + 1) (v 0 0)))) 0 (v 0 0)
def P_X7_allMinutes (t : Int) (μ : Mem) : Prop := TB μ t
def F_X7_allMinutes (t : Int) (μ : Mem) : Int := allMinV (tv μ t)
def S_X7_allMinutes : S0t := fun as μ Q => match as with
  | [(2, x0)] => P_X7_allMinutes x0 μ ∧ Q μ (some (kI (F_X7_allMinutes x0 μ)))
  | _ => False
theorem mono_X7_allMinutes : Mono S_X7_allMinutes := by
  intro as μ Q Q' h hS
  unfold S_X7_allMinutes at hS ⊢
  split at hS
  · exact ⟨hS.1, h _ _ hS.2⟩
  · exact hS.elim
def iX7_allMinutes : Inf := (kX7_allMinutes, fTX7, pTX7, cTX7, lTX7, sTX7, [])
theorem ok_X7_allMinutes : infOK iX7_allMinutes mX7_allMinutes RX7 0 0 := ⟨kkX7_allMinutes, fTX7_ok, pTX7_ok _, cTX7_ok, lTX7_ok, sTX7_ok, c_nil⟩
theorem mt_X7_allMinutes : mtOK [] RX7 0 0 := mt_nil
abbrev V_X7_allMinutes (R : Mem → Option AV → Prop) (pc : Nat) (lc : List (Nat × AV)) (μ : Mem) : Prop := VM mX7_allMinutes RX7 0 0 R pc lc [] μ
set_option maxRecDepth 20000 in
theorem vc_X7_allMinutes_0 {R : Mem → Option AV → Prop} {t : Int} {μ : Mem} (ht : isT t) (H : V_X7_allMinutes R 4 [(0, kR t), (1, kI 0), (2, kI 0)] μ) : V_X7_allMinutes R 0 [(0, kR t)] μ := by
  refine vm_step2 mt_X7_allMinutes ok_X7_allMinutes [(4, [0, 1, 2]), (16, [0, 1, 2, 3])] 1000 ?_
  show V_X7_allMinutes R 4 [(0, kR t), (1, kI 0), (2, kI 0)] μ
  exact H
set_option maxRecDepth 20000 in
theorem vc_X7_allMinutes_4 {R : Mem → Option AV → Prop} {sum a t : Int} {μ : Mem} (ht : isT t) (H : r32 a ∧ r32 (μ t 1) ∧ (((μ t 1) ≤ a) → R μ (some (kI sum))) ∧ (¬ ((μ t 1) ≤ a) → V_X7_allMinutes R 16 [(0, kR t), (1, kI sum), (2, kI a), (3, kI (a + 1))] μ)) : V_X7_allMinutes R 4 [(0, kR t), (1, kI sum), (2, kI a)] μ := by
  refine vm_step2 mt_X7_allMinutes ok_X7_allMinutes [(4, [0, 1, 2]), (16, [0, 1, 2, 3])] 1000 ?_
  show isC t 7 ∧ (r32 a ∧ r32 (μ t 1)) ∧ (((μ t 1) ≤ a) → R μ (some (kI sum))) ∧ (¬ ((μ t 1) ≤ a) → V_X7_allMinutes R 16 [(0, kR t), (1, kI sum), (2, kI a), (3, kI (a + 1))] μ)
  exact ⟨isT_C ht, ⟨⟨H.1, H.2.1⟩, fun hc1 => (H.2.2.1 hc1), fun hc1 => (H.2.2.2 hc1)⟩⟩
set_option maxRecDepth 20000 in
theorem vc_X7_allMinutes_16 {R : Mem → Option AV → Prop} {sum a b t : Int} {μ : Mem} (ht : isT t) (H : r32 b ∧ r32 (μ t 1) ∧ (((μ t 1) ≤ b) → V_X7_allMinutes R 4 [(0, kR t), (1, kI sum), (2, kI (a + 1))] μ) ∧ (¬ ((μ t 1) ≤ b) → (0 ≤ ((a * 8) + b) ∧ ((a * 8) + b) < 64) ∧ V_X7_allMinutes R 16 [(0, kR t), (1, kI (sum + (μ (t + 1) ((a * 8) + b)))), (2, kI a), (3, kI (b + 1))] μ)) : V_X7_allMinutes R 16 [(0, kR t), (1, kI sum), (2, kI a), (3, kI b)] μ := by
  refine vm_step2 mt_X7_allMinutes ok_X7_allMinutes [(4, [0, 1, 2]), (16, [0, 1, 2, 3])] 1000 ?_
  show isC t 7 ∧ (r32 b ∧ r32 (μ t 1)) ∧ (((μ t 1) ≤ b) → V_X7_allMinutes R 4 [(0, kR t), (1, kI sum), (2, kI (a + 1))] μ) ∧ (¬ ((μ t 1) ≤ b) → isC t 7 ∧ inA (t + 1) 0 ((a * 8) + b) ∧ V_X7_allMinutes R 16 [(0, kR t), (1, kI (sum + (μ (t + 1) ((a * 8) + b)))), (2, kI a), (3, kI (b + 1))] μ)
  exact ⟨isT_C ht, ⟨⟨H.1, H.2.1⟩, fun hc2 => (H.2.2.1 hc2), fun hc2 => ⟨isT_C ht, ⟨isArr.in (T_minutes ht) (H.2.2.2 hc2).1.1 (H.2.2.2 hc2).1.2, (H.2.2.2 hc2).2⟩⟩⟩⟩
theorem body_X7_allMinutes {t : Int} {μ : Mem} {R : Mem → Option AV → Prop} (h : P_X7_allMinutes t μ) (hR : R μ (some (kI (F_X7_allMinutes t μ)))) : V_X7_allMinutes R 0 [(0, kR t)] μ := by
  obtain ⟨ht, ok⟩ := h
  have hp : 2 ≤ μ t 1 ∧ μ t 1 ≤ 8 := ok.1
  refine vc_X7_allMinutes_0 ht ?_
  refine up_ind (P := fun a => V_X7_allMinutes R 4 [(0, kR t), (1, kI (fold (fun s a => s + (sm (fun b => tv μ t 7 (8 * a + b)) (tv μ t 0 0) - sm (fun b => tv μ t 7 (8 * a + b)) (min (a + 1) (tv μ t 0 0)))) 0 a)), (2, kI a)] μ) (lo := 0) (hi := μ t 1) ?_ ?_ 0 (by omega) (by omega)
  · intro a h0 h1 ih
    rw [fold_s h0] at ih
    generalize fold (fun s a => s + (sm (fun b => tv μ t 7 (8 * a + b)) (tv μ t 0 0) - sm (fun b => tv μ t 7 (8 * a + b)) (min (a + 1) (tv μ t 0 0)))) 0 a = s0 at ih ⊢
    refine vc_X7_allMinutes_4 ht ⟨rr (by omega), rr (by omega), fun c => absurd c (by omega), fun _ => ?_⟩
    have hmin : min (a + 1) (tv μ t 0 0) = a + 1 := by show min (a + 1) (μ t 1) = a + 1; omega
    rw [hmin] at ih
    have key := up_ind (P := fun b => V_X7_allMinutes R 16 [(0, kR t), (1, kI (s0 + (sm (fun b => tv μ t 7 (8 * a + b)) b - sm (fun b => tv μ t 7 (8 * a + b)) (a + 1)))), (2, kI a), (3, kI b)] μ) (lo := a + 1) (hi := μ t 1) ?_ ?_ (a + 1) (by omega) (by omega)
    · refine v_eq key ?_ rfl
      rw [Int.sub_self, Int.add_zero]
    · intro b b0 b1 ih2
      rw [sm_s (by omega)] at ih2
      refine vc_X7_allMinutes_16 ht ⟨rr (by omega), rr (by omega), fun c => absurd c (by omega), fun _ => ⟨by omega, v_eq ih2 ?_ rfl⟩⟩
      rw [e7 μ t h0 (by omega) (by omega) (by omega)]
      have e : ∀ x y z w : Int, x + (y + w - z) = x + (y - z) + w := by intros; omega
      rw [e]
    · exact vc_X7_allMinutes_16 ht ⟨rr (by omega), rr (by omega), fun _ => ih, fun c => absurd (Int.le_refl _) c⟩
  · exact vc_X7_allMinutes_4 ht ⟨rr (by omega), rr (by omega), fun _ => hR, fun c => absurd (Int.le_refl _) c⟩
theorem ct_X7_allMinutes : Ct mX7_allMinutes 0 0 0 0 (nrmS S_X7_allMinutes) := by
  refine ct_vm (own := RX7) (by decide +kernel) rfl ?_ ?_
  · intro as μ Q hS
    unfold S_X7_allMinutes at hS
    split at hS
    · exact Nat.le_of_ble_eq_true rfl
    · exact hS.elim
  · intro as μ R hS
    unfold S_X7_allMinutes at hS
    split at hS
    · exact body_X7_allMinutes hS.1 hS.2
    · exact hS.elim
