theorem wv_sc (μ : Mem) : ∀ f : Int, 0 ≤ f → f < 9 → (wvC μ 1).2.1 f = μ 1 (f + 2) := fun f f0 f1 => clip_in (n := 9) (f := fun f => μ 1 (f + 2)) f0 f1
theorem ask_town {c : Int} {μ : Mem} (h : CI c μ) {n : Int} (rn : r32 n) : P_X9_townAt 1 n μ ∧ ∀ r : Int, Q_X9_townAt 1 n μ r → (r < 0 ∧ ∀ (d : Int) (f : TV → Int), onT (wvC μ 1) n d f = d) ∨ (¬ r < 0 ∧ TR μ r ∧ (0 ≤ μ r 2 ∧ μ r 2 ≤ 20) ∧ r32 (μ r 0) ∧ (4 ≤ r ∧ r ≤ 24) ∧ ∀ (d : Int) (f : TV → Int), onT (wvC μ 1) n d f = f (tv μ r)) := by
  obtain ⟨p, q⟩ := town_at h rn
  refine ⟨p, fun r hr => ?_⟩
  rcases q r hr with ⟨h1, h2⟩ | ⟨h1, h2, h3, h4, h5, h6⟩
  · exact Or.inl ⟨h1, fun d f => onT_no h2⟩
  · subst h3
    exact Or.inr ⟨h1, h4, h5, h6, by omega, fun d f => onT_yes ⟨h2.1, h2.2.1⟩⟩
def faultA (w : WVt) (k : Int) : Int := if k = 0 then w.2.1 1 else if k = 1 then w.2.1 2 else -1
def P_X10_fault (o k : Int) (μ : Mem) : Prop := o = 0 ∧ (∃ c, CI c μ) ∧ r32 k
def Q_X10_fault (_ k : Int) (μ μ' : Mem) (r : Int) : Prop := Ask μ μ' ∧ r = faultA (wvC μ 1) k
def S_X10_fault : S0t := fun as μ Q => match as with
  | [(2, x0), (0, x1)] => P_X10_fault x0 x1 μ ∧ ∀ (μ' : Mem) (r : Int), Q_X10_fault x0 x1 μ μ' r → Q μ' (some (kI r))
  | _ => False
theorem mono_X10_fault : Mono S_X10_fault := by
  intro as μ Q Q' h hS
  unfold S_X10_fault at hS ⊢
  split at hS
  · exact ⟨hS.1, fun μ' r q => h _ _ (hS.2 _ _ q)⟩
  · exact hS.elim
def iX10_fault : Inf := (kX10_fault, fTX10, pTX10, cTX10, lTX10, sTX10, [])
theorem ok_X10_fault : infOK iX10_fault mX10_fault RX10 0 0 := ⟨kkX10_fault, fTX10_ok, pTX10_ok _, cTX10_ok, lTX10_ok, sTX10_ok, c_nil⟩
theorem mt_X10_fault : mtOK [] RX10 0 0 := mt_nil
abbrev V_X10_fault (R : Mem → Option AV → Prop) (pc : Nat) (lc : List (Nat × AV)) (μ : Mem) : Prop := VM mX10_fault RX10 0 0 R pc lc [] μ
set_option maxRecDepth 20000 in
theorem vc_X10_fault_0 {R : Mem → Option AV → Prop} {k : Int} {μ : Mem} (H : r32 k ∧ ((¬ k = 0) → r32 k ∧ ((¬ k = (1 : Int)) → R μ (some (kI (-1)))) ∧ (¬ (¬ k = (1 : Int)) → R μ (some (kI (μ 1 4))))) ∧ (¬ (¬ k = 0) → R μ (some (kI (μ 1 3))))) : V_X10_fault R 0 [(0, kR 0), (1, kI k)] μ := by
  refine vm_step2 mt_X10_fault ok_X10_fault [] 1000 ?_
  show r32 k ∧ ((¬ k = 0) → (r32 k ∧ r32 (1 : Int)) ∧ ((¬ k = (1 : Int)) → R μ (some (kI (-1)))) ∧ (¬ (¬ k = (1 : Int)) → isC 0 10 ∧ isC 1 9 ∧ R μ (some (kI (μ 1 4))))) ∧ (¬ (¬ k = 0) → isC 0 10 ∧ isC 1 9 ∧ R μ (some (kI (μ 1 3))))
  exact ⟨H.1, fun hc2 => ⟨⟨(H.2.1 hc2).1, by unfold r32; omega⟩, fun hc1 => ((H.2.1 hc2).2.1 hc1), fun hc1 => ⟨c_0, ⟨c_1, ((H.2.1 hc2).2.2 hc1)⟩⟩⟩, fun hc2 => ⟨c_0, ⟨c_1, (H.2.2 hc2)⟩⟩⟩
theorem body_X10_fault {o k : Int} {μ : Mem} {R : Mem → Option AV → Prop} (h : P_X10_fault o k μ) (hR : ∀ (μ' : Mem) (r : Int), Q_X10_fault o k μ μ' r → R μ' (some (kI r))) : V_X10_fault R 0 [(0, kR o), (1, kI k)] μ := by
  obtain ⟨rfl, ⟨c, hc⟩, rk⟩ := h
  have sc := wv_sc μ
  have fin : ∀ x : Int, x = faultA (wvC μ 1) k → R μ (some (kI x)) := fun x hx => hR μ x ⟨Ask_0 μ, hx⟩
  unfold faultA at fin
  rw [sc 1 (by omega) (by omega), sc 2 (by omega) (by omega)] at fin
  refine vc_X10_fault_0 ⟨rk, fun c0 => ⟨rk, fun c1 => fin _ ?_, fun c1 => fin _ ?_⟩, fun c0 => fin _ ?_⟩
  · rw [if_neg c0, if_neg c1]
  · rw [if_neg c0, if_pos (Classical.byContradiction c1)]; rfl
  · rw [if_pos (Classical.byContradiction c0)]; rfl
theorem ct_X10_fault : Ct mX10_fault 0 0 0 0 (nrmS S_X10_fault) := by
  refine ct_vm (own := RX10) (by decide +kernel) rfl ?_ ?_
  · intro as μ Q hS
    unfold S_X10_fault at hS
    split at hS
    · exact Nat.le_of_ble_eq_true rfl
    · exact hS.elim
  · intro as μ R hS
    unfold S_X10_fault at hS
    split at hS
    · exact body_X10_fault hS.1 hS.2
    · exact hS.elim
def countA (w : WVt) (k : Int) : Int := if k = 0 then w.2.1 3 else if k = 1 then w.2.1 4 else -2
def P_X10_count (o k : Int) (μ : Mem) : Prop := o = 0 ∧ (∃ c, CI c μ) ∧ r32 k
def Q_X10_count (_ k : Int) (μ μ' : Mem) (r : Int) : Prop := Ask μ μ' ∧ r = countA (wvC μ 1) k
def S_X10_count : S0t := fun as μ Q => match as with
  | [(2, x0), (0, x1)] => P_X10_count x0 x1 μ ∧ ∀ (μ' : Mem) (r : Int), Q_X10_count x0 x1 μ μ' r → Q μ' (some (kI r))
  | _ => False
theorem mono_X10_count : Mono S_X10_count := by
  intro as μ Q Q' h hS
  unfold S_X10_count at hS ⊢
  split at hS
  · exact ⟨hS.1, fun μ' r q => h _ _ (hS.2 _ _ q)⟩
  · exact hS.elim
def iX10_count : Inf := (kX10_count, fTX10, pTX10, cTX10, lTX10, sTX10, [])
theorem ok_X10_count : infOK iX10_count mX10_count RX10 0 0 := ⟨kkX10_count, fTX10_ok, pTX10_ok _, cTX10_ok, lTX10_ok, sTX10_ok, c_nil⟩
theorem mt_X10_count : mtOK [] RX10 0 0 := mt_nil
abbrev V_X10_count (R : Mem → Option AV → Prop) (pc : Nat) (lc : List (Nat × AV)) (μ : Mem) : Prop := VM mX10_count RX10 0 0 R pc lc [] μ
set_option maxRecDepth 20000 in
theorem vc_X10_count_0 {R : Mem → Option AV → Prop} {k : Int} {μ : Mem} (H : r32 k ∧ ((¬ k = 0) → r32 k ∧ ((¬ k = (1 : Int)) → R μ (some (kI (-2)))) ∧ (¬ (¬ k = (1 : Int)) → R μ (some (kI (μ 1 6))))) ∧ (¬ (¬ k = 0) → R μ (some (kI (μ 1 5))))) : V_X10_count R 0 [(0, kR 0), (1, kI k)] μ := by
  refine vm_step2 mt_X10_count ok_X10_count [] 1000 ?_
  show r32 k ∧ ((¬ k = 0) → (r32 k ∧ r32 (1 : Int)) ∧ ((¬ k = (1 : Int)) → R μ (some (kI (-2)))) ∧ (¬ (¬ k = (1 : Int)) → isC 0 10 ∧ isC 1 9 ∧ R μ (some (kI (μ 1 6))))) ∧ (¬ (¬ k = 0) → isC 0 10 ∧ isC 1 9 ∧ R μ (some (kI (μ 1 5))))
  exact ⟨H.1, fun hc2 => ⟨⟨(H.2.1 hc2).1, by unfold r32; omega⟩, fun hc1 => ((H.2.1 hc2).2.1 hc1), fun hc1 => ⟨c_0, ⟨c_1, ((H.2.1 hc2).2.2 hc1)⟩⟩⟩, fun hc2 => ⟨c_0, ⟨c_1, (H.2.2 hc2)⟩⟩⟩
theorem body_X10_count {o k : Int} {μ : Mem} {R : Mem → Option AV → Prop} (h : P_X10_count o k μ) (hR : ∀ (μ' : Mem) (r : Int), Q_X10_count o k μ μ' r → R μ' (some (kI r))) : V_X10_count R 0 [(0, kR o), (1, kI k)] μ := by
  obtain ⟨rfl, ⟨c, hc⟩, rk⟩ := h
  have sc := wv_sc μ
  have fin : ∀ x : Int, x = countA (wvC μ 1) k → R μ (some (kI x)) := fun x hx => hR μ x ⟨Ask_0 μ, hx⟩
  unfold countA at fin
  rw [sc 3 (by omega) (by omega), sc 4 (by omega) (by omega)] at fin
  refine vc_X10_count_0 ⟨rk, fun c0 => ⟨rk, fun c1 => fin _ ?_, fun c1 => fin _ ?_⟩, fun c0 => fin _ ?_⟩
  · rw [if_neg c0, if_neg c1]
  · rw [if_neg c0, if_pos (Classical.byContradiction c1)]; rfl
  · rw [if_pos (Classical.byContradiction c0)]; rfl
theorem ct_X10_count : Ct mX10_count 0 0 0 0 (nrmS S_X10_count) := by
  refine ct_vm (own := RX10) (by decide +kernel) rfl ?_ ?_
  · intro as μ Q hS
    unfold S_X10_count at hS
    split at hS
    · exact Nat.le_of_ble_eq_true rfl
    · exact hS.elim
  · intro as μ R hS
    unfold S_X10_count at hS
    split at hS
    · exact body_X10_count hS.1 hS.2
    · exact hS.elim
def ranA (w : WVt) (k : Int) : Int := if w.2.1 4 = 0 then -1 else if k = 0 then w.2.1 5 else if k = 1 then w.2.1 6 else if k = 2 then w.2.1 7 else if k = 3 then w.2.1 8 else -1
def P_X10_ran (o k : Int) (μ : Mem) : Prop := o = 0 ∧ (∃ c, CI c μ) ∧ r32 k
def Q_X10_ran (_ k : Int) (μ μ' : Mem) (r : Int) : Prop := Ask μ μ' ∧ r = ranA (wvC μ 1) k
def S_X10_ran : S0t := fun as μ Q => match as with
  | [(2, x0), (0, x1)] => P_X10_ran x0 x1 μ ∧ ∀ (μ' : Mem) (r : Int), Q_X10_ran x0 x1 μ μ' r → Q μ' (some (kI r))
  | _ => False
theorem mono_X10_ran : Mono S_X10_ran := by
  intro as μ Q Q' h hS
  unfold S_X10_ran at hS ⊢
  split at hS
  · exact ⟨hS.1, fun μ' r q => h _ _ (hS.2 _ _ q)⟩
  · exact hS.elim
def iX10_ran : Inf := (kX10_ran, fTX10, pTX10, cTX10, lTX10, sTX10, [])
theorem ok_X10_ran : infOK iX10_ran mX10_ran RX10 0 0 := ⟨kkX10_ran, fTX10_ok, pTX10_ok _, cTX10_ok, lTX10_ok, sTX10_ok, c_nil⟩
theorem mt_X10_ran : mtOK [] RX10 0 0 := mt_nil
abbrev V_X10_ran (R : Mem → Option AV → Prop) (pc : Nat) (lc : List (Nat × AV)) (μ : Mem) : Prop := VM mX10_ran RX10 0 0 R pc lc [] μ
set_option maxRecDepth 20000 in
theorem vc_X10_ran_0 {R : Mem → Option AV → Prop} {k : Int} {μ : Mem} (H : r32 (μ 1 6) ∧ ((¬ (μ 1 6) = 0) → r32 k ∧ (k < 0 ∨ 3 < k → R μ (some (kI (-1)))) ∧ (k = 0 → R μ (some (kI (μ 1 7)))) ∧ (k = 1 → R μ (some (kI (μ 1 8)))) ∧ (k = 2 → R μ (some (kI (μ 1 9)))) ∧ (k = 3 → R μ (some (kI (μ 1 10))))) ∧ (¬ (¬ (μ 1 6) = 0) → R μ (some (kI (-1))))) : V_X10_ran R 0 [(0, kR 0), (1, kI k)] μ := by
  refine vm_step2 mt_X10_ran ok_X10_ran [] 1000 ?_
  show isC 0 10 ∧ isC 1 9 ∧ r32 (μ 1 6) ∧ ((¬ (μ 1 6) = 0) → r32 k ∧ (k < 0 ∨ 3 < k → R μ (some (kI (-1)))) ∧ (k = 0 → isC 0 10 ∧ isC 1 9 ∧ R μ (some (kI (μ 1 7)))) ∧ (k = 1 → isC 0 10 ∧ isC 1 9 ∧ R μ (some (kI (μ 1 8)))) ∧ (k = 2 → isC 0 10 ∧ isC 1 9 ∧ R μ (some (kI (μ 1 9)))) ∧ (k = 3 → isC 0 10 ∧ isC 1 9 ∧ R μ (some (kI (μ 1 10)))) ∧ True) ∧ (¬ (¬ (μ 1 6) = 0) → R μ (some (kI (-1))))
  exact ⟨c_0, ⟨c_1, ⟨H.1, fun hc2 => ⟨(H.2.1 hc2).1, fun hc1 => ((H.2.1 hc2).2.1 hc1), fun hc1 => ⟨c_0, ⟨c_1, ((H.2.1 hc2).2.2.1 hc1)⟩⟩, fun hc1 => ⟨c_0, ⟨c_1, ((H.2.1 hc2).2.2.2.1 hc1)⟩⟩, fun hc1 => ⟨c_0, ⟨c_1, ((H.2.1 hc2).2.2.2.2.1 hc1)⟩⟩, fun hc1 => ⟨c_0, ⟨c_1, ((H.2.1 hc2).2.2.2.2.2 hc1)⟩⟩, trivial⟩, fun hc2 => (H.2.2 hc2)⟩⟩⟩
theorem body_X10_ran {o k : Int} {μ : Mem} {R : Mem → Option AV → Prop} (h : P_X10_ran o k μ) (hR : ∀ (μ' : Mem) (r : Int), Q_X10_ran o k μ μ' r → R μ' (some (kI r))) : V_X10_ran R 0 [(0, kR o), (1, kI k)] μ := by
  obtain ⟨rfl, ⟨c, hc⟩, rk⟩ := h
  have sc := wv_sc μ
  have fin : ∀ x : Int, x = ranA (wvC μ 1) k → R μ (some (kI x)) := fun x hx => hR μ x ⟨Ask_0 μ, hx⟩
  unfold ranA at fin
  rw [sc 4 (by omega) (by omega), sc 5 (by omega) (by omega), sc 6 (by omega) (by omega), sc 7 (by omega) (by omega), sc 8 (by omega) (by omega)] at fin
  have e6 : (4 : Int) + 2 = 6 := rfl
  rw [e6] at fin
  have r6 : r32 (μ 1 6) := by
    obtain ⟨Mk, _, _, hw, _⟩ := hc
    exact hw.2.2.2.2.1 6 (by omega) (by omega)
  refine vc_X10_ran_0 ⟨r6, fun c => ⟨rk, fun c2 => fin _ ?_, fun c2 => fin _ ?_, fun c2 => fin _ ?_, fun c2 => fin _ ?_, fun c2 => fin _ ?_⟩, fun c => fin _ ?_⟩
  · rw [if_neg c, if_neg (by omega), if_neg (by omega), if_neg (by omega), if_neg (by omega)]
  · rw [if_neg c, if_pos c2]; rfl
  · rw [if_neg c, if_neg (by omega), if_pos c2]; rfl
  · rw [if_neg c, if_neg (by omega), if_neg (by omega), if_pos c2]; rfl
  · rw [if_neg c, if_neg (by omega), if_neg (by omega), if_neg (by omega), if_pos c2]; rfl
  · rw [if_pos (Classical.byContradiction c)]
theorem ct_X10_ran : Ct mX10_ran 0 0 0 0 (nrmS S_X10_ran) := by
  refine ct_vm (own := RX10) (by decide +kernel) rfl ?_ ?_
  · intro as μ Q hS
    unfold S_X10_ran at hS
    split at hS
    · exact Nat.le_of_ble_eq_true rfl
    · exact hS.elim
  · intro as μ R hS
    unfold S_X10_ran at hS
    split at hS
    · exact body_X10_ran hS.1 hS.2
    · exact hS.elim
def aboutT (k : Int) (v : TV) : Int := aboutV v (sm (v 4) (v 0 0)) (cellV v) k
def P_X10_about (o n k : Int) (μ : Mem) : Prop := o = 0 ∧ (∃ c, CI c μ) ∧ r32 n ∧ r32 k
def Q_X10_about (_ n k : Int) (μ μ' : Mem) (r : Int) : Prop := Ask μ μ' ∧ r = onT (wvC μ 1) n (-1) (aboutT k)
def S_X10_about : S0t := fun as μ Q => match as with
  | [(2, x0), (0, x1), (0, x2)] => P_X10_about x0 x1 x2 μ ∧ ∀ (μ' : Mem) (r : Int), Q_X10_about x0 x1 x2 μ μ' r → Q μ' (some (kI r))
  | _ => False
theorem mono_X10_about : Mono S_X10_about := by
  intro as μ Q Q' h hS
  unfold S_X10_about at hS ⊢
  split at hS
  · exact ⟨hS.1, fun μ' r q => h _ _ (hS.2 _ _ q)⟩
  · exact hS.elim
def iX10_about : Inf := (kX10_about, fTX10, pTX10, cTX10, lTX10, sTX10, [(110, 0, 1, 9, S_X9_townAt), (133, 0, 1, 7, S_X7_tell)])
theorem ok_X10_about : infOK iX10_about mX10_about RX10 2 42 := ⟨kkX10_about, fTX10_ok, pTX10_ok _, cTX10_ok, lTX10_ok, sTX10_ok, c_cons ⟨mX9_townAt, 0, 0, ct_X9_townAt, mmX9_townAt, vvX9_townAt, lkX10_110, ⟨by decide, by decide⟩, ⟨_, _, rfl⟩, by decide, mono_X9_townAt⟩ (c_cons ⟨mX7_tell, 1, 21, ct_X7_tell, mmX7_tell, vvX7_tell, lkX10_133, ⟨by decide, by decide⟩, ⟨_, _, rfl⟩, by decide, mono_X7_tell⟩ (c_nil))⟩
theorem mt_X10_about : mtOK [] RX10 2 42 := mt_nil
abbrev V_X10_about (R : Mem → Option AV → Prop) (pc : Nat) (lc : List (Nat × AV)) (μ : Mem) : Prop := VM mX10_about RX10 2 42 R pc lc [] μ
set_option maxRecDepth 20000 in
theorem vc_X10_about_0 {R : Mem → Option AV → Prop} {n k : Int} {μ : Mem} (H : P_X9_townAt 1 n μ ∧ (∀ (rv2 : Int), Q_X9_townAt 1 n μ rv2 → (rv2 < 0 → R μ (some (kI (-1)))) ∧ (¬ rv2 < 0 → P_X7_tell rv2 k μ ∧ R μ (some (kI (F_X7_tell rv2 k μ)))))) : V_X10_about R 0 [(0, kR 0), (1, kI n), (2, kI k)] μ := by
  refine vm_step2 mt_X10_about ok_X10_about [] 1000 ?_
  show isC 0 10 ∧ isC 1 9 ∧ P_X9_townAt 1 n μ ∧ (∀ (rv2 : Int), Q_X9_townAt 1 n μ rv2 → (¬ rv2 < 0 → isC rv2 7 ∧ P_X7_tell rv2 k μ ∧ R μ (some (kI (F_X7_tell rv2 k μ)))) ∧ (rv2 < 0 → R μ (some (kI (-1)))))
  exact ⟨c_0, ⟨c_1, H.1, fun rv2 hq3 => ⟨fun hz4 => have h_rv2 := hq3.2.2 hz4; ⟨isT_C h_rv2, ((H.2 rv2 hq3).2 hz4).1, ((H.2 rv2 hq3).2 hz4).2⟩, fun hz4 => ((H.2 rv2 hq3).1 hz4)⟩⟩⟩
theorem body_X10_about {o n k : Int} {μ : Mem} {R : Mem → Option AV → Prop} (h : P_X10_about o n k μ) (hR : ∀ (μ' : Mem) (r : Int), Q_X10_about o n k μ μ' r → R μ' (some (kI r))) : V_X10_about R 0 [(0, kR o), (1, kI n), (2, kI k)] μ := by
  obtain ⟨rfl, ⟨c, hc⟩, r_n, r_k⟩ := h
  obtain ⟨pt, ht⟩ := ask_town hc r_n
  have fin : ∀ x : Int, x = onT (wvC μ 1) n (-1) (aboutT k) → R μ (some (kI x)) := fun x hx => hR μ x ⟨Ask_0 μ, hx⟩
  refine vc_X10_about_0 ⟨pt, fun t q => ?_⟩
  rcases ht t q with ⟨hneg, hno⟩ | ⟨hpos, hr, hl, hm, ht4, hy⟩
  · exact ⟨fun _ => fin _ (hno _ _).symm, fun q => absurd hneg q⟩
  · have ok := hr.1.2
    have hp : 2 ≤ μ t 1 ∧ μ t 1 ≤ 8 := ok.1
    have hpe : tv μ t 0 0 = μ t 1 := rfl
    have hw8 : 0 ≤ μ t 12 ∧ μ t 12 ≤ 8 := ok.2.2.2.2.2.2.2.1
    have hle : tv μ t 1 0 = μ t 2 := rfl
    rw [hy] at fin
    unfold aboutT at fin
    refine ⟨fun q => absurd q hpos, fun _ => ?_⟩
    refine ⟨⟨hr.1, r_k⟩, fin _ ?_⟩
    unfold F_X7_tell
    rw [hr.2.2.2.2.1, hr.2.2.2.2.2]
theorem ct_X10_about : Ct mX10_about 2 42 0 0 (nrmS S_X10_about) := by
  refine ct_vm (own := RX10) (by decide +kernel) rfl ?_ ?_
  · intro as μ Q hS
    unfold S_X10_about at hS
    split at hS
    · exact Nat.le_of_ble_eq_true rfl
    · exact hS.elim
  · intro as μ R hS
    unfold S_X10_about at hS
    split at hS
    · exact body_X10_about hS.1 hS.2
    · exact hS.elim
def laneT (a b : Int) (v : TV) : Int := if (0 ≤ a ∧ a < v 0 0) ∧ (0 ≤ b ∧ b < v 0 0) ∧ v 7 (8 * a + b) ≠ 0 then v 7 (8 * a + b) else -1
def P_X10_lane (o n a b : Int) (μ : Mem) : Prop := o = 0 ∧ (∃ c, CI c μ) ∧ r32 n ∧ r32 a ∧ r32 b
def Q_X10_lane (_ n a b : Int) (μ μ' : Mem) (r : Int) : Prop := Ask μ μ' ∧ r = onT (wvC μ 1) n (-1) (laneT a b)
def S_X10_lane : S0t := fun as μ Q => match as with
  | [(2, x0), (0, x1), (0, x2), (0, x3)] => P_X10_lane x0 x1 x2 x3 μ ∧ ∀ (μ' : Mem) (r : Int), Q_X10_lane x0 x1 x2 x3 μ μ' r → Q μ' (some (kI r))
  | _ => False
theorem mono_X10_lane : Mono S_X10_lane := by
  intro as μ Q Q' h hS
  unfold S_X10_lane at hS ⊢
  split at hS
  · exact ⟨hS.1, fun μ' r q => h _ _ (hS.2 _ _ q)⟩
  · exact hS.elim
def iX10_lane : Inf := (kX10_lane, fTX10, pTX10, cTX10, lTX10, sTX10, [(110, 0, 1, 9, S_X9_townAt), (137, 0, 1, 7, S_X7_has)])
theorem ok_X10_lane : infOK iX10_lane mX10_lane RX10 1 21 := ⟨kkX10_lane, fTX10_ok, pTX10_ok _, cTX10_ok, lTX10_ok, sTX10_ok, c_cons ⟨mX9_townAt, 0, 0, ct_X9_townAt, mmX9_townAt, vvX9_townAt, lkX10_110, ⟨by decide, by decide⟩, ⟨_, _, rfl⟩, by decide, mono_X9_townAt⟩ (c_cons ⟨mX7_has, 0, 0, ct_X7_has, mmX7_has, vvX7_has, lkX10_137, ⟨by decide, by decide⟩, ⟨_, _, rfl⟩, by decide, mono_X7_has⟩ (c_nil))⟩
theorem mt_X10_lane : mtOK [] RX10 1 21 := mt_nil
abbrev V_X10_lane (R : Mem → Option AV → Prop) (pc : Nat) (lc : List (Nat × AV)) (μ : Mem) : Prop := VM mX10_lane RX10 1 21 R pc lc [] μ
set_option maxRecDepth 20000 in
theorem vc_X10_lane_0 {R : Mem → Option AV → Prop} {n a b : Int} {μ : Mem} (H : P_X9_townAt 1 n μ ∧ (∀ (rv2 : Int), Q_X9_townAt 1 n μ rv2 → (rv2 < 0 → R μ (some (kI (-1)))) ∧ (¬ rv2 < 0 → P_X7_has rv2 a μ ∧ r32 (F_X7_has rv2 a μ) ∧ (((F_X7_has rv2 a μ) = 0) → R μ (some (kI (-1)))) ∧ (¬ ((F_X7_has rv2 a μ) = 0) → P_X7_has rv2 b μ ∧ r32 (F_X7_has rv2 b μ) ∧ ((¬ (F_X7_has rv2 b μ) = 0) → (0 ≤ ((a * 8) + b) ∧ ((a * 8) + b) < 64) ∧ r32 (μ (rv2 + 1) ((a * 8) + b)) ∧ ((¬ (μ (rv2 + 1) ((a * 8) + b)) = 0) → R μ (some (kI (μ (rv2 + 1) ((a * 8) + b))))) ∧ (¬ (¬ (μ (rv2 + 1) ((a * 8) + b)) = 0) → R μ (some (kI (-1))))) ∧ (¬ (¬ (F_X7_has rv2 b μ) = 0) → R μ (some (kI (-1)))))))) : V_X10_lane R 0 [(0, kR 0), (1, kI n), (2, kI a), (3, kI b)] μ := by
  refine vm_step2 mt_X10_lane ok_X10_lane [] 1000 ?_
  show isC 0 10 ∧ isC 1 9 ∧ P_X9_townAt 1 n μ ∧ (∀ (rv2 : Int), Q_X9_townAt 1 n μ rv2 → (rv2 < 0 → R μ (some (kI (-1)))) ∧ (¬ rv2 < 0 → isC rv2 7 ∧ P_X7_has rv2 a μ ∧ r32 (F_X7_has rv2 a μ) ∧ (((F_X7_has rv2 a μ) = 0) → R μ (some (kI (-1)))) ∧ (¬ ((F_X7_has rv2 a μ) = 0) → isC rv2 7 ∧ P_X7_has rv2 b μ ∧ r32 (F_X7_has rv2 b μ) ∧ ((¬ (F_X7_has rv2 b μ) = 0) → isC rv2 7 ∧ inA (rv2 + 1) 0 ((a * 8) + b) ∧ r32 (μ (rv2 + 1) ((a * 8) + b)) ∧ ((¬ (μ (rv2 + 1) ((a * 8) + b)) = 0) → R μ (some (kI (μ (rv2 + 1) ((a * 8) + b))))) ∧ (¬ (¬ (μ (rv2 + 1) ((a * 8) + b)) = 0) → R μ (some (kI (-1))))) ∧ (¬ (¬ (F_X7_has rv2 b μ) = 0) → R μ (some (kI (-1)))))))
  exact ⟨c_0, ⟨c_1, H.1, fun rv2 hq3 => ⟨fun hz7 => ((H.2 rv2 hq3).1 hz7), fun hz7 => have h_rv2 := hq3.2.2 hz7; ⟨isT_C h_rv2, ((H.2 rv2 hq3).2 hz7).1, ⟨((H.2 rv2 hq3).2 hz7).2.1, fun hc6 => (((H.2 rv2 hq3).2 hz7).2.2.1 hc6), fun hc6 => ⟨isT_C h_rv2, (((H.2 rv2 hq3).2 hz7).2.2.2 hc6).1, ⟨(((H.2 rv2 hq3).2 hz7).2.2.2 hc6).2.1, fun hc5 => ⟨isT_C h_rv2, ⟨isArr.in (T_minutes h_rv2) ((((H.2 rv2 hq3).2 hz7).2.2.2 hc6).2.2.1 hc5).1.1 ((((H.2 rv2 hq3).2 hz7).2.2.2 hc6).2.2.1 hc5).1.2, ⟨((((H.2 rv2 hq3).2 hz7).2.2.2 hc6).2.2.1 hc5).2.1, fun hc4 => (((((H.2 rv2 hq3).2 hz7).2.2.2 hc6).2.2.1 hc5).2.2.1 hc4), fun hc4 => (((((H.2 rv2 hq3).2 hz7).2.2.2 hc6).2.2.1 hc5).2.2.2 hc4)⟩⟩⟩, fun hc5 => ((((H.2 rv2 hq3).2 hz7).2.2.2 hc6).2.2.2 hc5)⟩⟩⟩⟩⟩⟩⟩
theorem body_X10_lane {o n a b : Int} {μ : Mem} {R : Mem → Option AV → Prop} (h : P_X10_lane o n a b μ) (hR : ∀ (μ' : Mem) (r : Int), Q_X10_lane o n a b μ μ' r → R μ' (some (kI r))) : V_X10_lane R 0 [(0, kR o), (1, kI n), (2, kI a), (3, kI b)] μ := by
  obtain ⟨rfl, ⟨c, hc⟩, r_n, r_a, r_b⟩ := h
  obtain ⟨pt, ht⟩ := ask_town hc r_n
  have fin : ∀ x : Int, x = onT (wvC μ 1) n (-1) (laneT a b) → R μ (some (kI x)) := fun x hx => hR μ x ⟨Ask_0 μ, hx⟩
  refine vc_X10_lane_0 ⟨pt, fun t q => ?_⟩
  rcases ht t q with ⟨hneg, hno⟩ | ⟨hpos, hr, hl, hm, ht4, hy⟩
  · exact ⟨fun _ => fin _ (hno _ _).symm, fun q => absurd hneg q⟩
  · have ok := hr.1.2
    have hp : 2 ≤ μ t 1 ∧ μ t 1 ≤ 8 := ok.1
    have hpe : tv μ t 0 0 = μ t 1 := rfl
    have hw8 : 0 ≤ μ t 12 ∧ μ t 12 ≤ 8 := ok.2.2.2.2.2.2.2.1
    have hle : tv μ t 1 0 = μ t 2 := rfl
    rw [hy] at fin
    unfold laneT at fin
    refine ⟨fun q => absurd q hpos, fun _ => ?_⟩
    unfold F_X7_has
    by_cases ca : 0 ≤ a ∧ a < μ t 1
    · rw [if_pos ca]
      refine ⟨⟨hr.1.1, r_a, hp⟩, rr (by omega), fun q => absurd q (by omega), fun _ => ⟨⟨hr.1.1, r_b, hp⟩, ?_⟩⟩
      by_cases cb : 0 ≤ b ∧ b < μ t 1
      · rw [if_pos cb]
        refine ⟨rr (by omega), fun _ => ?_, fun q => absurd (show ¬ (1 : Int) = 0 by omega) q⟩
        have e := e7 μ t ca.1 (show a < 8 by omega) cb.1 (show b < 8 by omega)
        have lb := ok.2.2.2.2.2.1 (8 * a + b) (by omega) (by omega)
        rw [e]
        refine ⟨by omega, rr (by omega), fun c => fin _ ?_, fun c => fin _ ?_⟩
        · rw [if_pos ⟨ca, cb, c⟩]
        · rw [if_neg (fun q => c q.2.2)]
      · rw [if_neg cb]
        exact ⟨rr (by omega), fun q => absurd rfl q, fun _ => fin _ (if_neg (fun q => cb (by rw [hpe] at q; exact q.2.1))).symm⟩
    · rw [if_neg ca]
      exact ⟨⟨hr.1.1, r_a, hp⟩, rr (by omega), fun _ => fin _ (if_neg (fun q => ca (by rw [hpe] at q; exact q.1))).symm, fun q => absurd rfl q⟩
theorem ct_X10_lane : Ct mX10_lane 1 21 0 0 (nrmS S_X10_lane) := by
  refine ct_vm (own := RX10) (by decide +kernel) rfl ?_ ?_
  · intro as μ Q hS
    unfold S_X10_lane at hS
    split at hS
    · exact Nat.le_of_ble_eq_true rfl
    · exact hS.elim
  · intro as μ R hS
    unfold S_X10_lane at hS
    split at hS
    · exact body_X10_lane hS.1 hS.2
    · exact hS.elim
def wayT (a b : Int) (v : TV) : Int := if (0 ≤ a ∧ a < v 0 0) ∧ (0 ≤ b ∧ b < v 0 0) then wayV v a b else -1
def P_X10_way (o n a b : Int) (μ : Mem) : Prop := o = 0 ∧ (∃ c, CI c μ) ∧ r32 n ∧ r32 a ∧ r32 b
def Q_X10_way (_ n a b : Int) (μ μ' : Mem) (r : Int) : Prop := Ask μ μ' ∧ r = onT (wvC μ 1) n (-1) (wayT a b)
def S_X10_way : S0t := fun as μ Q => match as with
  | [(2, x0), (0, x1), (0, x2), (0, x3)] => P_X10_way x0 x1 x2 x3 μ ∧ ∀ (μ' : Mem) (r : Int), Q_X10_way x0 x1 x2 x3 μ μ' r → Q μ' (some (kI r))
  | _ => False
theorem mono_X10_way : Mono S_X10_way := by
  intro as μ Q Q' h hS
  unfold S_X10_way at hS ⊢
  split at hS
  · exact ⟨hS.1, fun μ' r q => h _ _ (hS.2 _ _ q)⟩
  · exact hS.elim
def iX10_way : Inf := (kX10_way, fTX10, pTX10, cTX10, lTX10, sTX10, [(110, 0, 1, 9, S_X9_townAt), (137, 0, 1, 7, S_X7_has)])
theorem ok_X10_way : infOK iX10_way mX10_way RX10 1 21 := ⟨kkX10_way, fTX10_ok, pTX10_ok _, cTX10_ok, lTX10_ok, sTX10_ok, c_cons ⟨mX9_townAt, 0, 0, ct_X9_townAt, mmX9_townAt, vvX9_townAt, lkX10_110, ⟨by decide, by decide⟩, ⟨_, _, rfl⟩, by decide, mono_X9_townAt⟩ (c_cons ⟨mX7_has, 0, 0, ct_X7_has, mmX7_has, vvX7_has, lkX10_137, ⟨by decide, by decide⟩, ⟨_, _, rfl⟩, by decide, mono_X7_has⟩ (c_nil))⟩
theorem mt_X10_way : mtOK [] RX10 1 21 := mt_nil
abbrev V_X10_way (R : Mem → Option AV → Prop) (pc : Nat) (lc : List (Nat × AV)) (μ : Mem) : Prop := VM mX10_way RX10 1 21 R pc lc [] μ
set_option maxRecDepth 20000 in
theorem vc_X10_way_0 {R : Mem → Option AV → Prop} {n a b : Int} {μ : Mem} (H : P_X9_townAt 1 n μ ∧ (∀ (rv2 : Int), Q_X9_townAt 1 n μ rv2 → (rv2 < 0 → R μ (some (kI (-1)))) ∧ (¬ rv2 < 0 → P_X7_has rv2 a μ ∧ r32 (F_X7_has rv2 a μ) ∧ (((F_X7_has rv2 a μ) = 0) → R μ (some (kI (-1)))) ∧ (¬ ((F_X7_has rv2 a μ) = 0) → P_X7_has rv2 b μ ∧ r32 (F_X7_has rv2 b μ) ∧ ((¬ (F_X7_has rv2 b μ) = 0) → (0 ≤ ((a * 8) + b) ∧ ((a * 8) + b) < 64) ∧ R μ (some (kI (μ (rv2 + 2) ((a * 8) + b))))) ∧ (¬ (¬ (F_X7_has rv2 b μ) = 0) → R μ (some (kI (-1)))))))) : V_X10_way R 0 [(0, kR 0), (1, kI n), (2, kI a), (3, kI b)] μ := by
  refine vm_step2 mt_X10_way ok_X10_way [] 1000 ?_
  show isC 0 10 ∧ isC 1 9 ∧ P_X9_townAt 1 n μ ∧ (∀ (rv2 : Int), Q_X9_townAt 1 n μ rv2 → (rv2 < 0 → R μ (some (kI (-1)))) ∧ (¬ rv2 < 0 → isC rv2 7 ∧ P_X7_has rv2 a μ ∧ r32 (F_X7_has rv2 a μ) ∧ (((F_X7_has rv2 a μ) = 0) → R μ (some (kI (-1)))) ∧ (¬ ((F_X7_has rv2 a μ) = 0) → isC rv2 7 ∧ P_X7_has rv2 b μ ∧ r32 (F_X7_has rv2 b μ) ∧ ((¬ (F_X7_has rv2 b μ) = 0) → isC rv2 7 ∧ inA (rv2 + 2) 0 ((a * 8) + b) ∧ R μ (some (kI (μ (rv2 + 2) ((a * 8) + b))))) ∧ (¬ (¬ (F_X7_has rv2 b μ) = 0) → R μ (some (kI (-1)))))))
  exact ⟨c_0, ⟨c_1, H.1, fun rv2 hq3 => ⟨fun hz6 => ((H.2 rv2 hq3).1 hz6), fun hz6 => have h_rv2 := hq3.2.2 hz6; ⟨isT_C h_rv2, ((H.2 rv2 hq3).2 hz6).1, ⟨((H.2 rv2 hq3).2 hz6).2.1, fun hc5 => (((H.2 rv2 hq3).2 hz6).2.2.1 hc5), fun hc5 => ⟨isT_C h_rv2, (((H.2 rv2 hq3).2 hz6).2.2.2 hc5).1, ⟨(((H.2 rv2 hq3).2 hz6).2.2.2 hc5).2.1, fun hc4 => ⟨isT_C h_rv2, ⟨isArr.in (T_ways h_rv2) ((((H.2 rv2 hq3).2 hz6).2.2.2 hc5).2.2.1 hc4).1.1 ((((H.2 rv2 hq3).2 hz6).2.2.2 hc5).2.2.1 hc4).1.2, ((((H.2 rv2 hq3).2 hz6).2.2.2 hc5).2.2.1 hc4).2⟩⟩, fun hc4 => ((((H.2 rv2 hq3).2 hz6).2.2.2 hc5).2.2.2 hc4)⟩⟩⟩⟩⟩⟩⟩
theorem body_X10_way {o n a b : Int} {μ : Mem} {R : Mem → Option AV → Prop} (h : P_X10_way o n a b μ) (hR : ∀ (μ' : Mem) (r : Int), Q_X10_way o n a b μ μ' r → R μ' (some (kI r))) : V_X10_way R 0 [(0, kR o), (1, kI n), (2, kI a), (3, kI b)] μ := by
  obtain ⟨rfl, ⟨c, hc⟩, r_n, r_a, r_b⟩ := h
  obtain ⟨pt, ht⟩ := ask_town hc r_n
  have fin : ∀ x : Int, x = onT (wvC μ 1) n (-1) (wayT a b) → R μ (some (kI x)) := fun x hx => hR μ x ⟨Ask_0 μ, hx⟩
  refine vc_X10_way_0 ⟨pt, fun t q => ?_⟩
  rcases ht t q with ⟨hneg, hno⟩ | ⟨hpos, hr, hl, hm, ht4, hy⟩
  · exact ⟨fun _ => fin _ (hno _ _).symm, fun q => absurd hneg q⟩
  · have ok := hr.1.2
    have hp : 2 ≤ μ t 1 ∧ μ t 1 ≤ 8 := ok.1
    have hpe : tv μ t 0 0 = μ t 1 := rfl
    have hw8 : 0 ≤ μ t 12 ∧ μ t 12 ≤ 8 := ok.2.2.2.2.2.2.2.1
    have hle : tv μ t 1 0 = μ t 2 := rfl
    rw [hy] at fin
    unfold wayT at fin
    refine ⟨fun q => absurd q hpos, fun _ => ?_⟩
    unfold F_X7_has
    by_cases ca : 0 ≤ a ∧ a < μ t 1
    · rw [if_pos ca]
      refine ⟨⟨hr.1.1, r_a, hp⟩, rr (by omega), fun q => absurd q (by omega), fun _ => ⟨⟨hr.1.1, r_b, hp⟩, ?_⟩⟩
      by_cases cb : 0 ≤ b ∧ b < μ t 1
      · rw [if_pos cb]
        refine ⟨rr (by omega), fun _ => ?_, fun q => absurd (show ¬ (1 : Int) = 0 by omega) q⟩
        refine ⟨by omega, fin _ ?_⟩
        rw [if_pos ⟨ca, cb⟩]
        exact e8 hr.2.1 ca.1 ca.2 cb.1 cb.2
      · rw [if_neg cb]
        exact ⟨rr (by omega), fun q => absurd rfl q, fun _ => fin _ (if_neg (fun q => cb (by rw [hpe] at q; exact q.2))).symm⟩
    · rw [if_neg ca]
      exact ⟨⟨hr.1.1, r_a, hp⟩, rr (by omega), fun _ => fin _ (if_neg (fun q => ca (by rw [hpe] at q; exact q.1))).symm, fun q => absurd rfl q⟩
theorem ct_X10_way : Ct mX10_way 1 21 0 0 (nrmS S_X10_way) := by
  refine ct_vm (own := RX10) (by decide +kernel) rfl ?_ ?_
  · intro as μ Q hS
    unfold S_X10_way at hS
    split at hS
    · exact Nat.le_of_ble_eq_true rfl
    · exact hS.elim
  · intro as μ R hS
    unfold S_X10_way at hS
    split at hS
    · exact body_X10_way hS.1 hS.2
    · exact hS.elim
def foundT (a b : Int) (v : TV) : Int := if (0 ≤ a ∧ a < v 8 0) ∧ (0 ≤ b ∧ b < v 0 0) then foundV v a b else -1
def P_X10_found (o n a b : Int) (μ : Mem) : Prop := o = 0 ∧ (∃ c, CI c μ) ∧ r32 n ∧ r32 a ∧ r32 b
def Q_X10_found (_ n a b : Int) (μ μ' : Mem) (r : Int) : Prop := Ask μ μ' ∧ r = onT (wvC μ 1) n (-1) (foundT a b)
def S_X10_found : S0t := fun as μ Q => match as with
  | [(2, x0), (0, x1), (0, x2), (0, x3)] => P_X10_found x0 x1 x2 x3 μ ∧ ∀ (μ' : Mem) (r : Int), Q_X10_found x0 x1 x2 x3 μ μ' r → Q μ' (some (kI r))
  | _ => False
theorem mono_X10_found : Mono S_X10_found := by
  intro as μ Q Q' h hS
  unfold S_X10_found at hS ⊢
  split at hS
  · exact ⟨hS.1, fun μ' r q => h _ _ (hS.2 _ _ q)⟩
  · exact hS.elim
def iX10_found : Inf := (kX10_found, fTX10, pTX10, cTX10, lTX10, sTX10, [(110, 0, 1, 9, S_X9_townAt), (157, 0, 1, 7, S_X7_hasWalk), (137, 0, 1, 7, S_X7_has), (163, 0, 2, 7, S_X7_foundBy)])
theorem ok_X10_found : infOK iX10_found mX10_found RX10 1 26 := ⟨kkX10_found, fTX10_ok, pTX10_ok _, cTX10_ok, lTX10_ok, sTX10_ok, c_cons ⟨mX9_townAt, 0, 0, ct_X9_townAt, mmX9_townAt, vvX9_townAt, lkX10_110, ⟨by decide, by decide⟩, ⟨_, _, rfl⟩, by decide, mono_X9_townAt⟩ (c_cons ⟨mX7_hasWalk, 0, 0, ct_X7_hasWalk, mmX7_hasWalk, vvX7_hasWalk, lkX10_157, ⟨by decide, by decide⟩, ⟨_, _, rfl⟩, by decide, mono_X7_hasWalk⟩ (c_cons ⟨mX7_has, 0, 0, ct_X7_has, mmX7_has, vvX7_has, lkX10_137, ⟨by decide, by decide⟩, ⟨_, _, rfl⟩, by decide, mono_X7_has⟩ (c_cons ⟨mX7_foundBy, 0, 0, ct_X7_foundBy, mmX7_foundBy, vvX7_foundBy, lkX10_163, ⟨by decide, by decide⟩, ⟨_, _, rfl⟩, by decide, mono_X7_foundBy⟩ (c_nil))))⟩
theorem mt_X10_found : mtOK [] RX10 1 26 := mt_nil
abbrev V_X10_found (R : Mem → Option AV → Prop) (pc : Nat) (lc : List (Nat × AV)) (μ : Mem) : Prop := VM mX10_found RX10 1 26 R pc lc [] μ
set_option maxRecDepth 20000 in
theorem vc_X10_found_0 {R : Mem → Option AV → Prop} {n a b : Int} {μ : Mem} (H : P_X9_townAt 1 n μ ∧ (∀ (rv2 : Int), Q_X9_townAt 1 n μ rv2 → (rv2 < 0 → R μ (some (kI (-1)))) ∧ (¬ rv2 < 0 → P_X7_hasWalk rv2 a μ ∧ r32 (F_X7_hasWalk rv2 a μ) ∧ (((F_X7_hasWalk rv2 a μ) = 0) → R μ (some (kI (-1)))) ∧ (¬ ((F_X7_hasWalk rv2 a μ) = 0) → P_X7_has rv2 b μ ∧ r32 (F_X7_has rv2 b μ) ∧ ((¬ (F_X7_has rv2 b μ) = 0) → P_X7_foundBy rv2 a b μ ∧ R μ (some (kI (F_X7_foundBy rv2 a b μ)))) ∧ (¬ (¬ (F_X7_has rv2 b μ) = 0) → R μ (some (kI (-1)))))))) : V_X10_found R 0 [(0, kR 0), (1, kI n), (2, kI a), (3, kI b)] μ := by
  refine vm_step2 mt_X10_found ok_X10_found [] 1000 ?_
  show isC 0 10 ∧ isC 1 9 ∧ P_X9_townAt 1 n μ ∧ (∀ (rv2 : Int), Q_X9_townAt 1 n μ rv2 → (rv2 < 0 → R μ (some (kI (-1)))) ∧ (¬ rv2 < 0 → isC rv2 7 ∧ P_X7_hasWalk rv2 a μ ∧ r32 (F_X7_hasWalk rv2 a μ) ∧ (((F_X7_hasWalk rv2 a μ) = 0) → R μ (some (kI (-1)))) ∧ (¬ ((F_X7_hasWalk rv2 a μ) = 0) → isC rv2 7 ∧ P_X7_has rv2 b μ ∧ r32 (F_X7_has rv2 b μ) ∧ ((¬ (F_X7_has rv2 b μ) = 0) → isC rv2 7 ∧ P_X7_foundBy rv2 a b μ ∧ R μ (some (kI (F_X7_foundBy rv2 a b μ)))) ∧ (¬ (¬ (F_X7_has rv2 b μ) = 0) → R μ (some (kI (-1)))))))
  exact ⟨c_0, ⟨c_1, H.1, fun rv2 hq3 => ⟨fun hz6 => ((H.2 rv2 hq3).1 hz6), fun hz6 => have h_rv2 := hq3.2.2 hz6; ⟨isT_C h_rv2, ((H.2 rv2 hq3).2 hz6).1, ⟨((H.2 rv2 hq3).2 hz6).2.1, fun hc5 => (((H.2 rv2 hq3).2 hz6).2.2.1 hc5), fun hc5 => ⟨isT_C h_rv2, (((H.2 rv2 hq3).2 hz6).2.2.2 hc5).1, ⟨(((H.2 rv2 hq3).2 hz6).2.2.2 hc5).2.1, fun hc4 => ⟨isT_C h_rv2, ((((H.2 rv2 hq3).2 hz6).2.2.2 hc5).2.2.1 hc4).1, ((((H.2 rv2 hq3).2 hz6).2.2.2 hc5).2.2.1 hc4).2⟩, fun hc4 => ((((H.2 rv2 hq3).2 hz6).2.2.2 hc5).2.2.2 hc4)⟩⟩⟩⟩⟩⟩⟩
theorem body_X10_found {o n a b : Int} {μ : Mem} {R : Mem → Option AV → Prop} (h : P_X10_found o n a b μ) (hR : ∀ (μ' : Mem) (r : Int), Q_X10_found o n a b μ μ' r → R μ' (some (kI r))) : V_X10_found R 0 [(0, kR o), (1, kI n), (2, kI a), (3, kI b)] μ := by
  obtain ⟨rfl, ⟨c, hc⟩, r_n, r_a, r_b⟩ := h
  obtain ⟨pt, ht⟩ := ask_town hc r_n
  have fin : ∀ x : Int, x = onT (wvC μ 1) n (-1) (foundT a b) → R μ (some (kI x)) := fun x hx => hR μ x ⟨Ask_0 μ, hx⟩
  refine vc_X10_found_0 ⟨pt, fun t q => ?_⟩
  rcases ht t q with ⟨hneg, hno⟩ | ⟨hpos, hr, hl, hm, ht4, hy⟩
  · exact ⟨fun _ => fin _ (hno _ _).symm, fun q => absurd hneg q⟩
  · have ok := hr.1.2
    have hp : 2 ≤ μ t 1 ∧ μ t 1 ≤ 8 := ok.1
    have hpe : tv μ t 0 0 = μ t 1 := rfl
    have hw8 : 0 ≤ μ t 12 ∧ μ t 12 ≤ 8 := ok.2.2.2.2.2.2.2.1
    have hle : tv μ t 1 0 = μ t 2 := rfl
    rw [hy] at fin
    unfold foundT at fin
    refine ⟨fun q => absurd q hpos, fun _ => ?_⟩
    have hwe : tv μ t 8 0 = μ t 12 := rfl
    unfold F_X7_hasWalk F_X7_has
    by_cases ca : 0 ≤ a ∧ a < μ t 12
    · rw [if_pos ca]
      refine ⟨⟨hr.1.1, r_a, hw8⟩, rr (by omega), fun q => absurd q (by omega), fun _ => ⟨⟨hr.1.1, r_b, hp⟩, ?_⟩⟩
      by_cases cb : 0 ≤ b ∧ b < μ t 1
      · rw [if_pos cb]
        refine ⟨rr (by omega), fun _ => ⟨⟨hr.1, hr.2.1, ca, r_b⟩, fin _ ?_⟩, fun q => absurd (show ¬ (1 : Int) = 0 by omega) q⟩
        rw [if_pos ⟨ca, cb⟩]
        rfl
      · rw [if_neg cb]
        exact ⟨rr (by omega), fun q => absurd rfl q, fun _ => fin _ (if_neg (fun q => cb q.2)).symm⟩
    · rw [if_neg ca]
      exact ⟨⟨hr.1.1, r_a, hw8⟩, rr (by omega), fun _ => fin _ (if_neg (fun q => ca q.1)).symm, fun q => absurd rfl q⟩
theorem ct_X10_found : Ct mX10_found 1 26 0 0 (nrmS S_X10_found) := by
  refine ct_vm (own := RX10) (by decide +kernel) rfl ?_ ?_
  · intro as μ Q hS
    unfold S_X10_found at hS
    split at hS
    · exact Nat.le_of_ble_eq_true rfl
    · exact hS.elim
  · intro as μ R hS
    unfold S_X10_found at hS
    split at hS
    · exact body_X10_found hS.1 hS.2
    · exact hS.elim
def meanT (a : Int) (v : TV) : Int := if 0 ≤ a ∧ a < v 8 0 then meanV v a else -1
def P_X10_mean (o n a : Int) (μ : Mem) : Prop := o = 0 ∧ (∃ c, CI c μ) ∧ r32 n ∧ r32 a
def Q_X10_mean (_ n a : Int) (μ μ' : Mem) (r : Int) : Prop := Ask μ μ' ∧ r = onT (wvC μ 1) n (-1) (meanT a)
def S_X10_mean : S0t := fun as μ Q => match as with
  | [(2, x0), (0, x1), (0, x2)] => P_X10_mean x0 x1 x2 μ ∧ ∀ (μ' : Mem) (r : Int), Q_X10_mean x0 x1 x2 μ μ' r → Q μ' (some (kI r))
  | _ => False
theorem mono_X10_mean : Mono S_X10_mean := by
  intro as μ Q Q' h hS
  unfold S_X10_mean at hS ⊢
  split at hS
  · exact ⟨hS.1, fun μ' r q => h _ _ (hS.2 _ _ q)⟩
  · exact hS.elim
def iX10_mean : Inf := (kX10_mean, fTX10, pTX10, cTX10, lTX10, sTX10, [(110, 0, 1, 9, S_X9_townAt), (157, 0, 1, 7, S_X7_hasWalk), (167, 0, 1, 7, S_X7_meanOf)])
theorem ok_X10_mean : infOK iX10_mean mX10_mean RX10 2 50 := ⟨kkX10_mean, fTX10_ok, pTX10_ok _, cTX10_ok, lTX10_ok, sTX10_ok, c_cons ⟨mX9_townAt, 0, 0, ct_X9_townAt, mmX9_townAt, vvX9_townAt, lkX10_110, ⟨by decide, by decide⟩, ⟨_, _, rfl⟩, by decide, mono_X9_townAt⟩ (c_cons ⟨mX7_hasWalk, 0, 0, ct_X7_hasWalk, mmX7_hasWalk, vvX7_hasWalk, lkX10_157, ⟨by decide, by decide⟩, ⟨_, _, rfl⟩, by decide, mono_X7_hasWalk⟩ (c_cons ⟨mX7_meanOf, 1, 26, ct_X7_meanOf, mmX7_meanOf, vvX7_meanOf, lkX10_167, ⟨by decide, by decide⟩, ⟨_, _, rfl⟩, by decide, mono_X7_meanOf⟩ (c_nil)))⟩
theorem mt_X10_mean : mtOK [] RX10 2 50 := mt_nil
abbrev V_X10_mean (R : Mem → Option AV → Prop) (pc : Nat) (lc : List (Nat × AV)) (μ : Mem) : Prop := VM mX10_mean RX10 2 50 R pc lc [] μ
set_option maxRecDepth 20000 in
theorem vc_X10_mean_0 {R : Mem → Option AV → Prop} {n a : Int} {μ : Mem} (H : P_X9_townAt 1 n μ ∧ (∀ (rv2 : Int), Q_X9_townAt 1 n μ rv2 → (rv2 < 0 → R μ (some (kI (-1)))) ∧ (¬ rv2 < 0 → P_X7_hasWalk rv2 a μ ∧ r32 (F_X7_hasWalk rv2 a μ) ∧ ((¬ (F_X7_hasWalk rv2 a μ) = 0) → P_X7_meanOf rv2 a μ ∧ R μ (some (kI (F_X7_meanOf rv2 a μ)))) ∧ (¬ (¬ (F_X7_hasWalk rv2 a μ) = 0) → R μ (some (kI (-1))))))) : V_X10_mean R 0 [(0, kR 0), (1, kI n), (2, kI a)] μ := by
  refine vm_step2 mt_X10_mean ok_X10_mean [] 1000 ?_
  show isC 0 10 ∧ isC 1 9 ∧ P_X9_townAt 1 n μ ∧ (∀ (rv2 : Int), Q_X9_townAt 1 n μ rv2 → (rv2 < 0 → R μ (some (kI (-1)))) ∧ (¬ rv2 < 0 → isC rv2 7 ∧ P_X7_hasWalk rv2 a μ ∧ r32 (F_X7_hasWalk rv2 a μ) ∧ ((¬ (F_X7_hasWalk rv2 a μ) = 0) → isC rv2 7 ∧ P_X7_meanOf rv2 a μ ∧ R μ (some (kI (F_X7_meanOf rv2 a μ)))) ∧ (¬ (¬ (F_X7_hasWalk rv2 a μ) = 0) → R μ (some (kI (-1))))))
  exact ⟨c_0, ⟨c_1, H.1, fun rv2 hq3 => ⟨fun hz5 => ((H.2 rv2 hq3).1 hz5), fun hz5 => have h_rv2 := hq3.2.2 hz5; ⟨isT_C h_rv2, ((H.2 rv2 hq3).2 hz5).1, ⟨((H.2 rv2 hq3).2 hz5).2.1, fun hc4 => ⟨isT_C h_rv2, (((H.2 rv2 hq3).2 hz5).2.2.1 hc4).1, (((H.2 rv2 hq3).2 hz5).2.2.1 hc4).2⟩, fun hc4 => (((H.2 rv2 hq3).2 hz5).2.2.2 hc4)⟩⟩⟩⟩⟩
theorem body_X10_mean {o n a : Int} {μ : Mem} {R : Mem → Option AV → Prop} (h : P_X10_mean o n a μ) (hR : ∀ (μ' : Mem) (r : Int), Q_X10_mean o n a μ μ' r → R μ' (some (kI r))) : V_X10_mean R 0 [(0, kR o), (1, kI n), (2, kI a)] μ := by
  obtain ⟨rfl, ⟨c, hc⟩, r_n, r_a⟩ := h
  obtain ⟨pt, ht⟩ := ask_town hc r_n
  have fin : ∀ x : Int, x = onT (wvC μ 1) n (-1) (meanT a) → R μ (some (kI x)) := fun x hx => hR μ x ⟨Ask_0 μ, hx⟩
  refine vc_X10_mean_0 ⟨pt, fun t q => ?_⟩
  rcases ht t q with ⟨hneg, hno⟩ | ⟨hpos, hr, hl, hm, ht4, hy⟩
  · exact ⟨fun _ => fin _ (hno _ _).symm, fun q => absurd hneg q⟩
  · have ok := hr.1.2
    have hp : 2 ≤ μ t 1 ∧ μ t 1 ≤ 8 := ok.1
    have hpe : tv μ t 0 0 = μ t 1 := rfl
    have hw8 : 0 ≤ μ t 12 ∧ μ t 12 ≤ 8 := ok.2.2.2.2.2.2.2.1
    have hle : tv μ t 1 0 = μ t 2 := rfl
    rw [hy] at fin
    unfold meanT at fin
    refine ⟨fun q => absurd q hpos, fun _ => ?_⟩
    have hwe : tv μ t 8 0 = μ t 12 := rfl
    unfold F_X7_hasWalk
    by_cases ca : 0 ≤ a ∧ a < μ t 12
    · rw [if_pos ca]
      refine ⟨⟨hr.1.1, r_a, hw8⟩, rr (by omega), fun _ => ⟨⟨hr.1, hr.2.1, ca⟩, fin _ ?_⟩, fun q => absurd (show ¬ (1 : Int) = 0 by omega) q⟩
      rw [hwe, if_pos ca]
      rfl
    · rw [if_neg ca]
      exact ⟨⟨hr.1.1, r_a, hw8⟩, rr (by omega), fun q => absurd rfl q, fun _ => fin _ (if_neg ca).symm⟩
theorem ct_X10_mean : Ct mX10_mean 2 50 0 0 (nrmS S_X10_mean) := by
  refine ct_vm (own := RX10) (by decide +kernel) rfl ?_ ?_
  · intro as μ Q hS
    unfold S_X10_mean at hS
    split at hS
    · exact Nat.le_of_ble_eq_true rfl
    · exact hS.elim
  · intro as μ R hS
    unfold S_X10_mean at hS
    split at hS
    · exact body_X10_mean hS.1 hS.2
    · exact hS.elim
def treeT (v : TV) : Int := if v 1 0 = v 0 0 - 1 then 1 else 0
def P_X10_tree (o n : Int) (μ : Mem) : Prop := o = 0 ∧ (∃ c, CI c μ) ∧ r32 n
def Q_X10_tree (_ n : Int) (μ μ' : Mem) (r : Int) : Prop := Ask μ μ' ∧ r = onT (wvC μ 1) n (0) (treeT)
def S_X10_tree : S0t := fun as μ Q => match as with
  | [(2, x0), (0, x1)] => P_X10_tree x0 x1 μ ∧ ∀ (μ' : Mem) (r : Int), Q_X10_tree x0 x1 μ μ' r → Q μ' (some (kI r))
  | _ => False
theorem mono_X10_tree : Mono S_X10_tree := by
  intro as μ Q Q' h hS
  unfold S_X10_tree at hS ⊢
  split at hS
  · exact ⟨hS.1, fun μ' r q => h _ _ (hS.2 _ _ q)⟩
  · exact hS.elim
def iX10_tree : Inf := (kX10_tree, fTX10, pTX10, cTX10, lTX10, sTX10, [(110, 0, 1, 9, S_X9_townAt), (268, 0, 0, 7, S_X7_isTree)])
theorem ok_X10_tree : infOK iX10_tree mX10_tree RX10 1 21 := ⟨kkX10_tree, fTX10_ok, pTX10_ok _, cTX10_ok, lTX10_ok, sTX10_ok, c_cons ⟨mX9_townAt, 0, 0, ct_X9_townAt, mmX9_townAt, vvX9_townAt, lkX10_110, ⟨by decide, by decide⟩, ⟨_, _, rfl⟩, by decide, mono_X9_townAt⟩ (c_cons ⟨mX7_isTree, 0, 0, ct_X7_isTree, mmX7_isTree, vvX7_isTree, lkX10_268, ⟨by decide, by decide⟩, ⟨_, _, rfl⟩, by decide, mono_X7_isTree⟩ (c_nil))⟩
theorem mt_X10_tree : mtOK [] RX10 1 21 := mt_nil
abbrev V_X10_tree (R : Mem → Option AV → Prop) (pc : Nat) (lc : List (Nat × AV)) (μ : Mem) : Prop := VM mX10_tree RX10 1 21 R pc lc [] μ
set_option maxRecDepth 20000 in
theorem vc_X10_tree_0 {R : Mem → Option AV → Prop} {n : Int} {μ : Mem} (H : P_X9_townAt 1 n μ ∧ (∀ (rv2 : Int), Q_X9_townAt 1 n μ rv2 → (rv2 < 0 → R μ (some (kI 0))) ∧ (¬ rv2 < 0 → P_X7_isTree rv2 μ ∧ r32 (F_X7_isTree rv2 μ) ∧ (((F_X7_isTree rv2 μ) = 0) → R μ (some (kI 0))) ∧ (¬ ((F_X7_isTree rv2 μ) = 0) → R μ (some (kI 1)))))) : V_X10_tree R 0 [(0, kR 0), (1, kI n)] μ := by
  refine vm_step2 mt_X10_tree ok_X10_tree [] 1000 ?_
  show isC 0 10 ∧ isC 1 9 ∧ P_X9_townAt 1 n μ ∧ (∀ (rv2 : Int), Q_X9_townAt 1 n μ rv2 → (rv2 < 0 → (0 ≤ (0 : Int) ∧ (0 : Int) ≤ 1) ∧ R μ (some (kI 0))) ∧ (¬ rv2 < 0 → isC rv2 7 ∧ P_X7_isTree rv2 μ ∧ r32 (F_X7_isTree rv2 μ) ∧ (((F_X7_isTree rv2 μ) = 0) → (0 ≤ (0 : Int) ∧ (0 : Int) ≤ 1) ∧ R μ (some (kI 0))) ∧ (¬ ((F_X7_isTree rv2 μ) = 0) → (0 ≤ (1 : Int) ∧ (1 : Int) ≤ 1) ∧ R μ (some (kI 1)))))
  exact ⟨c_0, ⟨c_1, H.1, fun rv2 hq3 => ⟨fun hz5 => ⟨⟨by omega, by omega⟩, ((H.2 rv2 hq3).1 hz5)⟩, fun hz5 => have h_rv2 := hq3.2.2 hz5; ⟨isT_C h_rv2, ((H.2 rv2 hq3).2 hz5).1, ⟨((H.2 rv2 hq3).2 hz5).2.1, fun hc4 => ⟨⟨by omega, by omega⟩, (((H.2 rv2 hq3).2 hz5).2.2.1 hc4)⟩, fun hc4 => ⟨⟨by omega, by omega⟩, (((H.2 rv2 hq3).2 hz5).2.2.2 hc4)⟩⟩⟩⟩⟩⟩
theorem body_X10_tree {o n : Int} {μ : Mem} {R : Mem → Option AV → Prop} (h : P_X10_tree o n μ) (hR : ∀ (μ' : Mem) (r : Int), Q_X10_tree o n μ μ' r → R μ' (some (kI r))) : V_X10_tree R 0 [(0, kR o), (1, kI n)] μ := by
  obtain ⟨rfl, ⟨c, hc⟩, r_n⟩ := h
  obtain ⟨pt, ht⟩ := ask_town hc r_n
  have fin : ∀ x : Int, x = onT (wvC μ 1) n (0) (treeT) → R μ (some (kI x)) := fun x hx => hR μ x ⟨Ask_0 μ, hx⟩
  refine vc_X10_tree_0 ⟨pt, fun t q => ?_⟩
  rcases ht t q with ⟨hneg, hno⟩ | ⟨hpos, hr, hl, hm, ht4, hy⟩
  · exact ⟨fun _ => fin _ (hno _ _).symm, fun q => absurd hneg q⟩
  · have ok := hr.1.2
    have hp : 2 ≤ μ t 1 ∧ μ t 1 ≤ 8 := ok.1
    have hpe : tv μ t 0 0 = μ t 1 := rfl
    have hw8 : 0 ≤ μ t 12 ∧ μ t 12 ≤ 8 := ok.2.2.2.2.2.2.2.1
    have hle : tv μ t 1 0 = μ t 2 := rfl
    rw [hy] at fin
    unfold treeT at fin
    refine ⟨fun q => absurd q hpos, fun _ => ?_⟩
    rw [hpe, hle] at fin
    unfold F_X7_isTree
    by_cases ca : μ t 2 = μ t 1 - 1
    · rw [if_pos ca] at fin ⊢
      exact ⟨⟨hr.1.1, hp, rr (by omega)⟩, rr (by omega), fun q => absurd q (by omega), fun _ => fin _ rfl⟩
    · rw [if_neg ca] at fin ⊢
      exact ⟨⟨hr.1.1, hp, rr (by omega)⟩, rr (by omega), fun _ => fin _ rfl, fun q => absurd rfl q⟩
theorem ct_X10_tree : Ct mX10_tree 1 21 0 0 (nrmS S_X10_tree) := by
  refine ct_vm (own := RX10) (by decide +kernel) rfl ?_ ?_
  · intro as μ Q hS
    unfold S_X10_tree at hS
    split at hS
    · exact Nat.le_of_ble_eq_true rfl
    · exact hS.elim
  · intro as μ R hS
    unfold S_X10_tree at hS
    split at hS
    · exact body_X10_tree hS.1 hS.2
    · exact hS.elim
def worthT (v : TV) : Int := if v 1 0 = v 0 0 - 1 then allMinV v else -1
def P_X10_worth (o n : Int) (μ : Mem) : Prop := o = 0 ∧ (∃ c, CI c μ) ∧ r32 n
def Q_X10_worth (_ n : Int) (μ μ' : Mem) (r : Int) : Prop := Ask μ μ' ∧ r = onT (wvC μ 1) n (-1) (worthT)
def S_X10_worth : S0t := fun as μ Q => match as with
  | [(2, x0), (0, x1)] => P_X10_worth x0 x1 μ ∧ ∀ (μ' : Mem) (r : Int), Q_X10_worth x0 x1 μ μ' r → Q μ' (some (kI r))
  | _ => False
theorem mono_X10_worth : Mono S_X10_worth := by
  intro as μ Q Q' h hS
  unfold S_X10_worth at hS ⊢
  split at hS
  · exact ⟨hS.1, fun μ' r q => h _ _ (hS.2 _ _ q)⟩
  · exact hS.elim
def iX10_worth : Inf := (kX10_worth, fTX10, pTX10, cTX10, lTX10, sTX10, [(110, 0, 1, 9, S_X9_townAt), (268, 0, 0, 7, S_X7_isTree), (283, 0, 0, 7, S_X7_allMinutes)])
theorem ok_X10_worth : infOK iX10_worth mX10_worth RX10 1 23 := ⟨kkX10_worth, fTX10_ok, pTX10_ok _, cTX10_ok, lTX10_ok, sTX10_ok, c_cons ⟨mX9_townAt, 0, 0, ct_X9_townAt, mmX9_townAt, vvX9_townAt, lkX10_110, ⟨by decide, by decide⟩, ⟨_, _, rfl⟩, by decide, mono_X9_townAt⟩ (c_cons ⟨mX7_isTree, 0, 0, ct_X7_isTree, mmX7_isTree, vvX7_isTree, lkX10_268, ⟨by decide, by decide⟩, ⟨_, _, rfl⟩, by decide, mono_X7_isTree⟩ (c_cons ⟨mX7_allMinutes, 0, 0, ct_X7_allMinutes, mmX7_allMinutes, vvX7_allMinutes, lkX10_283, ⟨by decide, by decide⟩, ⟨_, _, rfl⟩, by decide, mono_X7_allMinutes⟩ (c_nil)))⟩
theorem mt_X10_worth : mtOK [] RX10 1 23 := mt_nil
abbrev V_X10_worth (R : Mem → Option AV → Prop) (pc : Nat) (lc : List (Nat × AV)) (μ : Mem) : Prop := VM mX10_worth RX10 1 23 R pc lc [] μ
set_option maxRecDepth 20000 in
theorem vc_X10_worth_0 {R : Mem → Option AV → Prop} {n : Int} {μ : Mem} (H : P_X9_townAt 1 n μ ∧ (∀ (rv2 : Int), Q_X9_townAt 1 n μ rv2 → (rv2 < 0 → R μ (some (kI (-1)))) ∧ (¬ rv2 < 0 → P_X7_isTree rv2 μ ∧ r32 (F_X7_isTree rv2 μ) ∧ ((¬ (F_X7_isTree rv2 μ) = 0) → P_X7_allMinutes rv2 μ ∧ R μ (some (kI (F_X7_allMinutes rv2 μ)))) ∧ (¬ (¬ (F_X7_isTree rv2 μ) = 0) → R μ (some (kI (-1))))))) : V_X10_worth R 0 [(0, kR 0), (1, kI n)] μ := by
  refine vm_step2 mt_X10_worth ok_X10_worth [] 1000 ?_
  show isC 0 10 ∧ isC 1 9 ∧ P_X9_townAt 1 n μ ∧ (∀ (rv2 : Int), Q_X9_townAt 1 n μ rv2 → (rv2 < 0 → R μ (some (kI (-1)))) ∧ (¬ rv2 < 0 → isC rv2 7 ∧ P_X7_isTree rv2 μ ∧ r32 (F_X7_isTree rv2 μ) ∧ ((¬ (F_X7_isTree rv2 μ) = 0) → isC rv2 7 ∧ P_X7_allMinutes rv2 μ ∧ R μ (some (kI (F_X7_allMinutes rv2 μ)))) ∧ (¬ (¬ (F_X7_isTree rv2 μ) = 0) → R μ (some (kI (-1))))))
  exact ⟨c_0, ⟨c_1, H.1, fun rv2 hq3 => ⟨fun hz5 => ((H.2 rv2 hq3).1 hz5), fun hz5 => have h_rv2 := hq3.2.2 hz5; ⟨isT_C h_rv2, ((H.2 rv2 hq3).2 hz5).1, ⟨((H.2 rv2 hq3).2 hz5).2.1, fun hc4 => ⟨isT_C h_rv2, (((H.2 rv2 hq3).2 hz5).2.2.1 hc4).1, (((H.2 rv2 hq3).2 hz5).2.2.1 hc4).2⟩, fun hc4 => (((H.2 rv2 hq3).2 hz5).2.2.2 hc4)⟩⟩⟩⟩⟩
theorem body_X10_worth {o n : Int} {μ : Mem} {R : Mem → Option AV → Prop} (h : P_X10_worth o n μ) (hR : ∀ (μ' : Mem) (r : Int), Q_X10_worth o n μ μ' r → R μ' (some (kI r))) : V_X10_worth R 0 [(0, kR o), (1, kI n)] μ := by
  obtain ⟨rfl, ⟨c, hc⟩, r_n⟩ := h
  obtain ⟨pt, ht⟩ := ask_town hc r_n
  have fin : ∀ x : Int, x = onT (wvC μ 1) n (-1) (worthT) → R μ (some (kI x)) := fun x hx => hR μ x ⟨Ask_0 μ, hx⟩
  refine vc_X10_worth_0 ⟨pt, fun t q => ?_⟩
  rcases ht t q with ⟨hneg, hno⟩ | ⟨hpos, hr, hl, hm, ht4, hy⟩
  · exact ⟨fun _ => fin _ (hno _ _).symm, fun q => absurd hneg q⟩
  · have ok := hr.1.2
    have hp : 2 ≤ μ t 1 ∧ μ t 1 ≤ 8 := ok.1
    have hpe : tv μ t 0 0 = μ t 1 := rfl
    have hw8 : 0 ≤ μ t 12 ∧ μ t 12 ≤ 8 := ok.2.2.2.2.2.2.2.1
    have hle : tv μ t 1 0 = μ t 2 := rfl
    rw [hy] at fin
    unfold worthT at fin
    refine ⟨fun q => absurd q hpos, fun _ => ?_⟩
    rw [hpe, hle] at fin
    unfold F_X7_isTree
    by_cases ca : μ t 2 = μ t 1 - 1
    · rw [if_pos ca] at fin ⊢
      exact ⟨⟨hr.1.1, hp, rr (by omega)⟩, rr (by omega), fun _ => ⟨hr.1, fin _ rfl⟩, fun q => absurd (show ¬ (1 : Int) = 0 by omega) q⟩
    · rw [if_neg ca] at fin ⊢
      exact ⟨⟨hr.1.1, hp, rr (by omega)⟩, rr (by omega), fun q => absurd rfl q, fun _ => fin _ rfl⟩
theorem ct_X10_worth : Ct mX10_worth 1 23 0 0 (nrmS S_X10_worth) := by
  refine ct_vm (own := RX10) (by decide +kernel) rfl ?_ ?_
  · intro as μ Q hS
    unfold S_X10_worth at hS
    split at hS
    · exact Nat.le_of_ble_eq_true rfl
    · exact hS.elim
  · intro as μ R hS
    unfold S_X10_worth at hS
    split at hS
    · exact body_X10_worth hS.1 hS.2
    · exact hS.elim
