theorem gainV_bd {v : TV} (ok : TVok v) {n : Int} (n0 : 0 ≤ n) (n1 : n ≤ cntV v) (n2 : n ≤ 64) : -100000000000000 * n ≤ gainV v n ∧ gainV v n ≤ 100000000000000 * n := by
  refine nat_ind (P := fun n => n ≤ cntV v → n ≤ 64 → -100000000000000 * n ≤ gainV v n ∧ gainV v n ≤ 100000000000000 * n) ?_ (fun i i0 ih => ?_) n n0 n1 n2
  · intro _ _
    show _ ≤ (0 : Int) ∧ (0 : Int) ≤ _
    omega
  · intro h1 h2
    have h := ih (by omega) (by omega)
    have hp := ok.1
    rcases rowV_ok (v := v) (by omega) i with e | ⟨r1, r2, r3⟩
    · exact absurd e (cntV_row i0 (by omega))
    · have sb := stV_bd (v := v) (by omega) i0
      have s1 := sb (rowV v i)
      have hf := findV_bd (d := stV v i (rowV v i)) ok r1.1 (show rowV v i < 8 by omega) s1.1 (by omega)
      have hl := leftV_bd ok sb
      have hd := (ok.2.2.2.1 (rowV v i) r1.1 (by omega)).2.2
      have m1 := mul_bd ok.2.1.1 ok.2.1.2 hf.1 hf.2
      have m2 := mul_bd (show 0 ≤ v 6 (rowV v i) by omega) hd.2 hl.1 hl.2
      rw [gainV_s i0]
      omega
theorem maxAt_cong {f g : Int → Int} {n : Int} (n0 : 0 ≤ n) (h : ∀ i, 0 ≤ i → i ≤ n → f i = g i) : maxAt f n = maxAt g n := by
  refine nat_ind (P := fun m => m ≤ n → maxAt f m = maxAt g m) (fun _ => rfl) (fun i i0 ih => ?_) n n0 (Int.le_refl _)
  intro i1
  have b := maxAt_bd (f := g) i0
  rw [maxAt_s i0, maxAt_s i0, ih (by omega), h _ b.1 (by omega), h (i + 1) (by omega) i1]
def leaveT (v : TV) : Int := maxAt (gainV v) (cntV v)
def P_X10_leave (o n : Int) (μ : Mem) : Prop := o = 0 ∧ (∃ c, CI c μ) ∧ r32 n
def Q_X10_leave (_ n : Int) (μ μ' : Mem) (r : Int) : Prop := Ask μ μ' ∧ r = onT (wvC μ 1) n (-1) (leaveT)
def S_X10_leave : S0t := fun as μ Q => match as with
  | [(2, x0), (0, x1)] => P_X10_leave x0 x1 μ ∧ ∀ (μ' : Mem) (r : Int), Q_X10_leave x0 x1 μ μ' r → Q μ' (some (kI r))
  | _ => False
theorem mono_X10_leave : Mono S_X10_leave := by
  intro as μ Q Q' h hS
  unfold S_X10_leave at hS ⊢
  split at hS
  · exact ⟨hS.1, fun μ' r q => h _ _ (hS.2 _ _ q)⟩
  · exact hS.elim
def iX10_leave : Inf := (kX10_leave, fTX10, pTX10, cTX10, lTX10, sTX10, [(110, 0, 1, 9, S_X9_townAt), (297, 0, 1, 1, S_X1_plan), (319, 0, 0, 1, S_X1_greatestGain)])
theorem ok_X10_leave : infOK iX10_leave mX10_leave RX10 3 70 := ⟨kkX10_leave, fTX10_ok, pTX10_ok _, cTX10_ok, lTX10_ok, sTX10_ok, c_cons ⟨mX9_townAt, 0, 0, ct_X9_townAt, mmX9_townAt, vvX9_townAt, lkX10_110, ⟨by decide, by decide⟩, ⟨_, _, rfl⟩, by decide, mono_X9_townAt⟩ (c_cons ⟨mX1_plan, 2, 45, ct_X1_plan, mmX1_plan, vvX1_plan, lkX10_297, ⟨by decide, by decide⟩, ⟨_, _, rfl⟩, by decide, mono_X1_plan⟩ (c_cons ⟨mX1_greatestGain, 0, 0, ct_X1_greatestGain, mmX1_greatestGain, vvX1_greatestGain, lkX10_319, ⟨by decide, by decide⟩, ⟨_, _, rfl⟩, by decide, mono_X1_greatestGain⟩ (c_nil)))⟩
theorem mt_X10_leave : mtOK [] RX10 3 70 := mt_nil
abbrev V_X10_leave (R : Mem → Option AV → Prop) (pc : Nat) (lc : List (Nat × AV)) (μ : Mem) : Prop := VM mX10_leave RX10 3 70 R pc lc [] μ
set_option maxRecDepth 20000 in
theorem vc_X10_leave_0 {R : Mem → Option AV → Prop} {n : Int} {μ : Mem} (H : P_X9_townAt 1 n μ ∧ (∀ (rv2 : Int), Q_X9_townAt 1 n μ rv2 → (rv2 < 0 → R μ (some (kI (-1)))) ∧ (¬ rv2 < 0 → P_X1_plan 180 rv2 μ ∧ (∀ (μ4 : Mem), Q_X1_plan 180 rv2 μ μ4 → V_X10_leave R 23 [(0, kR 0)] μ4)))) : V_X10_leave R 0 [(0, kR 0), (1, kI n)] μ := by
  refine vm_step2 mt_X10_leave ok_X10_leave [(23, [0])] 1000 ?_
  show isC 0 10 ∧ isC 1 9 ∧ P_X9_townAt 1 n μ ∧ (∀ (rv2 : Int), Q_X9_townAt 1 n μ rv2 → (¬ rv2 < 0 → isC 0 10 ∧ isC 180 1 ∧ P_X1_plan 180 rv2 μ ∧ (∀ (μ4 : Mem), Q_X1_plan 180 rv2 μ μ4 → V_X10_leave R 23 [(0, kR 0)] μ4)) ∧ (rv2 < 0 → R μ (some (kI (-1)))))
  exact ⟨c_0, ⟨c_1, H.1, fun rv2 hq3 => ⟨fun hz7 => have h_rv2 := hq3.2.2 hz7; ⟨c_0, ⟨c_180, ((H.2 rv2 hq3).2 hz7).1, fun μ4 hq6 => (((H.2 rv2 hq3).2 hz7).2 μ4 hq6)⟩⟩, fun hz7 => ((H.2 rv2 hq3).1 hz7)⟩⟩⟩
set_option maxRecDepth 20000 in
theorem vc_X10_leave_23 {R : Mem → Option AV → Prop} {μ : Mem} (H : P_X1_greatestGain 180 μ ∧ R μ (some (kI (F_X1_greatestGain 180 μ)))) : V_X10_leave R 23 [(0, kR 0)] μ := by
  refine vm_step2 mt_X10_leave ok_X10_leave [(23, [0])] 1000 ?_
  show isC 0 10 ∧ isC 180 1 ∧ P_X1_greatestGain 180 μ ∧ R μ (some (kI (F_X1_greatestGain 180 μ)))
  exact ⟨c_0, ⟨c_180, H.1, H.2⟩⟩
theorem body_X10_leave {o n : Int} {μ : Mem} {R : Mem → Option AV → Prop} (h : P_X10_leave o n μ) (hR : ∀ (μ' : Mem) (r : Int), Q_X10_leave o n μ μ' r → R μ' (some (kI r))) : V_X10_leave R 0 [(0, kR o), (1, kI n)] μ := by
  obtain ⟨rfl, ⟨c, hc⟩, r_n⟩ := h
  obtain ⟨pt, ht⟩ := ask_town hc r_n
  have fin : ∀ (m : Mem) (x : Int), Ask μ m → x = onT (wvC μ 1) n (-1) (leaveT) → R m (some (kI x)) := fun m x ha hx => hR m x ⟨ha, hx⟩
  refine vc_X10_leave_0 ⟨pt, fun t q => ?_⟩
  rcases ht t q with ⟨hneg, hno⟩ | ⟨hpos, hr, hl, hm, ht4, hy⟩
  · exact ⟨fun _ => fin μ _ (Ask_0 μ) (hno _ _).symm, fun q => absurd hneg q⟩
  · have hT := hr.1.1
    have ok := hr.1.2
    have hj := hr.2.2.1
    have hp : 2 ≤ μ t 1 ∧ μ t 1 ≤ 8 := ok.1
    have hpe : tv μ t 0 0 = μ t 1 := rfl
    have hle : tv μ t 1 0 = μ t 2 := rfl
    have a0 := Ask_0 μ
    rw [hy] at fin
    unfold leaveT at fin
    refine ⟨fun q => absurd q hpos, fun _ => ?_⟩
    refine ⟨plan_P hr, fun m4 q4 => vc_X10_leave_23 ?_⟩
    obtain ⟨⟨h5, hrow, hlg⟩, hf⟩ := q4
    have cb := cntV_bd (tv μ t)
    refine ⟨⟨rfl, by omega, fun i i0 i1 => ?_⟩, fin m4 _ (ask_looks hf) ?_⟩
    · rw [h5] at i1
      rw [(hlg i i0 i1).2]
      have := gainV_bd ok i0 i1 (by omega)
      exact rl (by omega)
    · unfold F_X1_greatestGain
      rw [h5]
      exact maxAt_cong (by omega) (fun i i0 i1 => (hlg i i0 i1).2)
theorem ct_X10_leave : Ct mX10_leave 3 70 0 0 (nrmS S_X10_leave) := by
  refine ct_vm (own := RX10) (by decide +kernel) rfl ?_ ?_
  · intro as μ Q hS
    unfold S_X10_leave at hS
    split at hS
    · exact Nat.le_of_ble_eq_true rfl
    · exact hS.elim
  · intro as μ R hS
    unfold S_X10_leave at hS
    split at hS
    · exact body_X10_leave hS.1 hS.2
    · exact hS.elim
theorem diaV_bd {v : TV} (ok : TVok v) (hc : calm v) {n : Int} (n0 : 0 ≤ n) (n1 : n ≤ 7) {a : Int} (a0 : 0 ≤ a) (a1 : a < v 0 0) : 0 ≤ diaV v n a ∧ diaV v n a ≤ 100000000000000000 := by
  have hp := ok.1
  have st : ∀ (n B : Int), 0 < n → (∀ b : Int, 0 ≤ b → b < v 0 0 → 0 ≤ diaV v n b ∧ diaV v n b ≤ B) → ∀ b : Int, 0 ≤ b → b < v 0 0 → 0 ≤ diaV v (n + 1) b ∧ diaV v (n + 1) b ≤ 12 * B * 12 := fun n B n0 h b b0 b1 => by
    rw [diaV_s (by omega)]
    unfold diaS
    rw [if_neg (show ¬ n ≤ 0 by omega)]
    exact day_bd ok (fun c c0 c1 => night_bd ok hc h c0 c1) b0 b1
  have h0 : ∀ b : Int, 0 ≤ b → b < v 0 0 → 0 ≤ diaV v 0 b ∧ diaV v 0 b ≤ 99 := fun b b0 b1 => (ok.2.2.2.1 b b0 (by omega)).1
  have h1 : ∀ b : Int, 0 ≤ b → b < v 0 0 → 0 ≤ diaV v 1 b ∧ diaV v 1 b ≤ 1188 := fun b b0 b1 => day_bd ok (x := v 13 0) h0 b0 b1
  have h2 : ∀ b : Int, 0 ≤ b → b < v 0 0 → 0 ≤ diaV v 2 b ∧ diaV v 2 b ≤ 12 * 1188 * 12 := st 1 _ (by omega) h1
  have h3 : ∀ b : Int, 0 ≤ b → b < v 0 0 → 0 ≤ diaV v 3 b ∧ diaV v 3 b ≤ 12 * (12 * 1188 * 12) * 12 := st 2 _ (by omega) h2
  have h4 : ∀ b : Int, 0 ≤ b → b < v 0 0 → 0 ≤ diaV v 4 b ∧ diaV v 4 b ≤ 12 * (12 * (12 * 1188 * 12) * 12) * 12 := st 3 _ (by omega) h3
  have h5 : ∀ b : Int, 0 ≤ b → b < v 0 0 → 0 ≤ diaV v 5 b ∧ diaV v 5 b ≤ 12 * (12 * (12 * (12 * 1188 * 12) * 12) * 12) * 12 := st 4 _ (by omega) h4
  have h6 : ∀ b : Int, 0 ≤ b → b < v 0 0 → 0 ≤ diaV v 6 b ∧ diaV v 6 b ≤ 12 * (12 * (12 * (12 * (12 * 1188 * 12) * 12) * 12) * 12) * 12 := st 5 _ (by omega) h5
  have h7 : ∀ b : Int, 0 ≤ b → b < v 0 0 → 0 ≤ diaV v 7 b ∧ diaV v 7 b ≤ 12 * (12 * (12 * (12 * (12 * (12 * 1188 * 12) * 12) * 12) * 12) * 12) * 12 := st 6 _ (by omega) h6
  have hm : n = 0 ∨ n = 1 ∨ n = 2 ∨ n = 3 ∨ n = 4 ∨ n = 5 ∨ n = 6 ∨ n = 7 := by omega
  rcases hm with h | h | h | h | h | h | h | h <;> subst h
  · have := h0 a a0 a1; omega
  · have := h1 a a0 a1; omega
  · have := h2 a a0 a1; omega
  · have := h3 a a0 a1; omega
  · have := h4 a a0 a1; omega
  · have := h5 a a0 a1; omega
  · have := h6 a a0 a1; omega
  · have := h7 a a0 a1; omega
theorem nextP_cong {v : TV} {f g : Int → Int} {n : Int} (h : ∀ i, 0 ≤ i → i < n → f i = g i) : nextP v f n = nextP v g n := fold_congr fun y i h0 h1 => by rw [h i h0 h1]
theorem gcdI_bd {a b : Int} (hb : 0 < b) : 0 < gcdI a b ∧ gcdI a b ≤ b := by
  unfold gcdI
  have h1 := Nat.gcd_pos_of_pos_right a.toNat (show 0 < b.toNat by omega)
  have h2 : Nat.gcd a.toNat b.toNat ≤ b.toNat := Nat.le_of_dvd (by omega) (Nat.gcd_dvd_right _ _)
  omega
def nextT (v : TV) : Int := (nextP v (diaV v (v 12 0)) (v 0 0)).1
def P_X10_next (o n : Int) (μ : Mem) : Prop := o = 0 ∧ (∃ c, CI c μ) ∧ r32 n
def Q_X10_next (_ n : Int) (μ μ' : Mem) (r : Int) : Prop := Ask μ μ' ∧ r = onT (wvC μ 1) n (-1) (nextT)
def S_X10_next : S0t := fun as μ Q => match as with
  | [(2, x0), (0, x1)] => P_X10_next x0 x1 μ ∧ ∀ (μ' : Mem) (r : Int), Q_X10_next x0 x1 μ μ' r → Q μ' (some (kI r))
  | _ => False
theorem mono_X10_next : Mono S_X10_next := by
  intro as μ Q Q' h hS
  unfold S_X10_next at hS ⊢
  split at hS
  · exact ⟨hS.1, fun μ' r q => h _ _ (hS.2 _ _ q)⟩
  · exact hS.elim
def iX10_next : Inf := (kX10_next, fTX10, pTX10, cTX10, lTX10, sTX10, [(110, 0, 1, 9, S_X9_townAt), (336, 0, 1, 2, S_X2_readDiary), (350, 0, 1, 2, S_X2_likeliestNow)])
theorem ok_X10_next : infOK iX10_next mX10_next RX10 4 106 := ⟨kkX10_next, fTX10_ok, pTX10_ok _, cTX10_ok, lTX10_ok, sTX10_ok, c_cons ⟨mX9_townAt, 0, 0, ct_X9_townAt, mmX9_townAt, vvX9_townAt, lkX10_110, ⟨by decide, by decide⟩, ⟨_, _, rfl⟩, by decide, mono_X9_townAt⟩ (c_cons ⟨mX2_readDiary, 3, 83, ct_X2_readDiary, mmX2_readDiary, vvX2_readDiary, lkX10_336, ⟨by decide, by decide⟩, ⟨_, _, rfl⟩, by decide, mono_X2_readDiary⟩ (c_cons ⟨mX2_likeliestNow, 0, 0, ct_X2_likeliestNow, mmX2_likeliestNow, vvX2_likeliestNow, lkX10_350, ⟨by decide, by decide⟩, ⟨_, _, rfl⟩, by decide, mono_X2_likeliestNow⟩ (c_nil)))⟩
theorem mt_X10_next : mtOK [] RX10 4 106 := mt_nil
abbrev V_X10_next (R : Mem → Option AV → Prop) (pc : Nat) (lc : List (Nat × AV)) (μ : Mem) : Prop := VM mX10_next RX10 4 106 R pc lc [] μ
set_option maxRecDepth 20000 in
theorem vc_X10_next_0 {R : Mem → Option AV → Prop} {n : Int} {μ : Mem} (H : P_X9_townAt 1 n μ ∧ (∀ (rv2 : Int), Q_X9_townAt 1 n μ rv2 → (rv2 < 0 → R μ (some (kI (-1)))) ∧ (¬ rv2 < 0 → P_X2_readDiary 186 rv2 μ ∧ (∀ (μ4 : Mem), Q_X2_readDiary 186 rv2 μ μ4 → V_X10_next R 23 [(0, kR 0), (2, kR rv2)] μ4)))) : V_X10_next R 0 [(0, kR 0), (1, kI n)] μ := by
  refine vm_step2 mt_X10_next ok_X10_next [(23, [0, 2])] 1000 ?_
  show isC 0 10 ∧ isC 1 9 ∧ P_X9_townAt 1 n μ ∧ (∀ (rv2 : Int), Q_X9_townAt 1 n μ rv2 → (¬ rv2 < 0 → isC 0 10 ∧ isC 186 2 ∧ P_X2_readDiary 186 rv2 μ ∧ (∀ (μ4 : Mem), Q_X2_readDiary 186 rv2 μ μ4 → V_X10_next R 23 [(0, kR 0), (2, kR rv2)] μ4)) ∧ (rv2 < 0 → R μ (some (kI (-1)))))
  exact ⟨c_0, ⟨c_1, H.1, fun rv2 hq3 => ⟨fun hz7 => have h_rv2 := hq3.2.2 hz7; ⟨c_0, ⟨c_186, ((H.2 rv2 hq3).2 hz7).1, fun μ4 hq6 => (((H.2 rv2 hq3).2 hz7).2 μ4 hq6)⟩⟩, fun hz7 => ((H.2 rv2 hq3).1 hz7)⟩⟩⟩
set_option maxRecDepth 20000 in
theorem vc_X10_next_23 {R : Mem → Option AV → Prop} {t : Int} {μ : Mem} (ht : isT t) (H : P_X2_likeliestNow 186 t μ ∧ R μ (some (kI (F_X2_likeliestNow 186 t μ)))) : V_X10_next R 23 [(0, kR 0), (2, kR t)] μ := by
  refine vm_step2 mt_X10_next ok_X10_next [(23, [0, 2])] 1000 ?_
  show isC 0 10 ∧ isC 186 2 ∧ P_X2_likeliestNow 186 t μ ∧ R μ (some (kI (F_X2_likeliestNow 186 t μ)))
  exact ⟨c_0, ⟨c_186, H.1, H.2⟩⟩
theorem body_X10_next {o n : Int} {μ : Mem} {R : Mem → Option AV → Prop} (h : P_X10_next o n μ) (hR : ∀ (μ' : Mem) (r : Int), Q_X10_next o n μ μ' r → R μ' (some (kI r))) : V_X10_next R 0 [(0, kR o), (1, kI n)] μ := by
  obtain ⟨rfl, ⟨c, hc⟩, r_n⟩ := h
  obtain ⟨pt, ht⟩ := ask_town hc r_n
  have fin : ∀ (m : Mem) (x : Int), Ask μ m → x = onT (wvC μ 1) n (-1) (nextT) → R m (some (kI x)) := fun m x ha hx => hR m x ⟨ha, hx⟩
  refine vc_X10_next_0 ⟨pt, fun t q => ?_⟩
  rcases ht t q with ⟨hneg, hno⟩ | ⟨hpos, hr, hl, hm, ht4, hy⟩
  · exact ⟨fun _ => fin μ _ (Ask_0 μ) (hno _ _).symm, fun q => absurd hneg q⟩
  · have hT := hr.1.1
    have ok := hr.1.2
    have hj := hr.2.2.1
    have hp : 2 ≤ μ t 1 ∧ μ t 1 ≤ 8 := ok.1
    have hpe : tv μ t 0 0 = μ t 1 := rfl
    have hle : tv μ t 1 0 = μ t 2 := rfl
    have a0 := Ask_0 μ
    rw [hy] at fin
    unfold nextT at fin
    refine ⟨fun q => absurd q hpos, fun _ => ?_⟩
    refine ⟨⟨rfl, hr.1, hr.2.2.2.1⟩, fun m4 q4 => vc_X10_next_23 hT ?_⟩
    obtain ⟨hd, hf⟩ := q4
    have frt : ∀ z : Int, t ≤ z → z ≤ t + 9 → m4 z = μ z := fun z z0 z1 => hf z (by omega) (by omega) (by omega)
    have hr4 := TR_frame hr frt
    have etv := tv_frame frt
    have hA : Ask μ m4 := Ask_far fun z hz => hf z (by omega) (by omega) (by omega)
    have hdd : 0 ≤ tv μ t 12 0 ∧ tv μ t 12 0 ≤ 7 := ok.2.2.2.2.2.2.2.2.2.1
    have hb : ∀ a : Int, 0 ≤ a → a < tv μ t 0 0 → 0 ≤ m4 193 a ∧ m4 193 a ≤ 100000000000000000 := fun a a0 a1 => by
      rw [hd a a0 a1]; exact diaV_bd ok hr.2.2.2.1 hdd.1 hdd.2 a0 a1
    refine ⟨⟨rfl, hr4.1, by rw [etv]; exact hb⟩, fin m4 _ hA ?_⟩
    unfold F_X2_likeliestNow
    rw [etv, nextP_cong hd]
theorem ct_X10_next : Ct mX10_next 4 106 0 0 (nrmS S_X10_next) := by
  refine ct_vm (own := RX10) (by decide +kernel) rfl ?_ ?_
  · intro as μ Q hS
    unfold S_X10_next at hS
    split at hS
    · exact Nat.le_of_ble_eq_true rfl
    · exact hS.elim
  · intro as μ R hS
    unfold S_X10_next at hS
    split at hS
    · exact body_X10_next hS.1 hS.2
    · exact hS.elim
def likelyT (a k : Int) (v : TV) : Int := if (0 ≤ a ∧ a < v 0 0) ∧ 0 ≤ k ∧ k ≤ 1 then (if sm (diaV v (v 12 0)) (v 0 0) = 0 then k else if k = 0 then Int.tdiv (diaV v (v 12 0) a) (gcdI (diaV v (v 12 0) a) (sm (diaV v (v 12 0)) (v 0 0))) else Int.tdiv (sm (diaV v (v 12 0)) (v 0 0)) (gcdI (diaV v (v 12 0) a) (sm (diaV v (v 12 0)) (v 0 0)))) else -1
def P_X10_likely (o n a k : Int) (μ : Mem) : Prop := o = 0 ∧ (∃ c, CI c μ) ∧ r32 n ∧ r32 a ∧ r32 k
def Q_X10_likely (_ n a k : Int) (μ μ' : Mem) (r : Int) : Prop := Ask μ μ' ∧ r = onT (wvC μ 1) n (-1) (likelyT a k)
def S_X10_likely : S0t := fun as μ Q => match as with
  | [(2, x0), (0, x1), (0, x2), (0, x3)] => P_X10_likely x0 x1 x2 x3 μ ∧ ∀ (μ' : Mem) (r : Int), Q_X10_likely x0 x1 x2 x3 μ μ' r → Q μ' (some (kL r))
  | _ => False
theorem mono_X10_likely : Mono S_X10_likely := by
  intro as μ Q Q' h hS
  unfold S_X10_likely at hS ⊢
  split at hS
  · exact ⟨hS.1, fun μ' r q => h _ _ (hS.2 _ _ q)⟩
  · exact hS.elim
def iX10_likely : Inf := (kX10_likely, fTX10, pTX10, cTX10, lTX10, sTX10, [(110, 0, 1, 9, S_X9_townAt), (137, 0, 1, 7, S_X7_has), (336, 0, 1, 2, S_X2_readDiary), (339, 0, 1, 2, S_X2_sumNow), (346, 1, 2, 0, S_X10_commonDivisor)])
theorem ok_X10_likely : infOK iX10_likely mX10_likely RX10 4 106 := ⟨kkX10_likely, fTX10_ok, pTX10_ok _, cTX10_ok, lTX10_ok, sTX10_ok, c_cons ⟨mX9_townAt, 0, 0, ct_X9_townAt, mmX9_townAt, vvX9_townAt, lkX10_110, ⟨by decide, by decide⟩, ⟨_, _, rfl⟩, by decide, mono_X9_townAt⟩ (c_cons ⟨mX7_has, 0, 0, ct_X7_has, mmX7_has, vvX7_has, lkX10_137, ⟨by decide, by decide⟩, ⟨_, _, rfl⟩, by decide, mono_X7_has⟩ (c_cons ⟨mX2_readDiary, 3, 83, ct_X2_readDiary, mmX2_readDiary, vvX2_readDiary, lkX10_336, ⟨by decide, by decide⟩, ⟨_, _, rfl⟩, by decide, mono_X2_readDiary⟩ (c_cons ⟨mX2_sumNow, 0, 0, ct_X2_sumNow, mmX2_sumNow, vvX2_sumNow, lkX10_339, ⟨by decide, by decide⟩, ⟨_, _, rfl⟩, by decide, mono_X2_sumNow⟩ (c_cons ⟨mX10_commonDivisor, 0, 0, ct_X10_commonDivisor, mmX10_commonDivisor, stX10_commonDivisor, lkX10_346, ⟨by decide, by decide⟩, mono_X10_commonDivisor⟩ (c_nil)))))⟩
theorem mt_X10_likely : mtOK [] RX10 4 106 := mt_nil
abbrev V_X10_likely (R : Mem → Option AV → Prop) (pc : Nat) (lc : List (Nat × AV)) (μ : Mem) : Prop := VM mX10_likely RX10 4 106 R pc lc [] μ
set_option maxRecDepth 20000 in
theorem vc_X10_likely_0 {R : Mem → Option AV → Prop} {n a k : Int} {μ : Mem} (H : P_X9_townAt 1 n μ ∧ (∀ (rv2 : Int), Q_X9_townAt 1 n μ rv2 → (rv2 < 0 → R μ (some (kL (-1)))) ∧ (¬ rv2 < 0 → P_X7_has rv2 a μ ∧ r32 (F_X7_has rv2 a μ) ∧ (((F_X7_has rv2 a μ) = 0) → R μ (some (kL (-1)))) ∧ (¬ ((F_X7_has rv2 a μ) = 0) → r32 k ∧ ((k < 0) → R μ (some (kL (-1)))) ∧ (¬ (k < 0) → r32 k ∧ ((k ≤ (1 : Int)) → P_X2_readDiary 186 rv2 μ ∧ (∀ (μ4 : Mem), Q_X2_readDiary 186 rv2 μ μ4 → V_X10_likely R 46 [(0, kR 0), (2, kI a), (3, kI k), (4, kR rv2)] μ4)) ∧ (¬ (k ≤ (1 : Int)) → R μ (some (kL (-1))))))))) : V_X10_likely R 0 [(0, kR 0), (1, kI n), (2, kI a), (3, kI k)] μ := by
  refine vm_step2 mt_X10_likely ok_X10_likely [(46, [0, 2, 3, 4])] 1000 ?_
  show isC 0 10 ∧ isC 1 9 ∧ P_X9_townAt 1 n μ ∧ (∀ (rv2 : Int), Q_X9_townAt 1 n μ rv2 → (rv2 < 0 → R μ (some (kL (-1)))) ∧ (¬ rv2 < 0 → isC rv2 7 ∧ P_X7_has rv2 a μ ∧ r32 (F_X7_has rv2 a μ) ∧ (((F_X7_has rv2 a μ) = 0) → R μ (some (kL (-1)))) ∧ (¬ ((F_X7_has rv2 a μ) = 0) → r32 k ∧ ((k < 0) → R μ (some (kL (-1)))) ∧ (¬ (k < 0) → (r32 k ∧ r32 (1 : Int)) ∧ ((k ≤ (1 : Int)) → isC 0 10 ∧ isC 186 2 ∧ P_X2_readDiary 186 rv2 μ ∧ (∀ (μ4 : Mem), Q_X2_readDiary 186 rv2 μ μ4 → V_X10_likely R 46 [(0, kR 0), (2, kI a), (3, kI k), (4, kR rv2)] μ4)) ∧ (¬ (k ≤ (1 : Int)) → R μ (some (kL (-1))))))))
  exact ⟨c_0, ⟨c_1, H.1, fun rv2 hq3 => ⟨fun hz10 => ((H.2 rv2 hq3).1 hz10), fun hz10 => have h_rv2 := hq3.2.2 hz10; ⟨isT_C h_rv2, ((H.2 rv2 hq3).2 hz10).1, ⟨((H.2 rv2 hq3).2 hz10).2.1, fun hc9 => (((H.2 rv2 hq3).2 hz10).2.2.1 hc9), fun hc9 => ⟨(((H.2 rv2 hq3).2 hz10).2.2.2 hc9).1, fun hc8 => ((((H.2 rv2 hq3).2 hz10).2.2.2 hc9).2.1 hc8), fun hc8 => ⟨⟨((((H.2 rv2 hq3).2 hz10).2.2.2 hc9).2.2 hc8).1, by unfold r32; omega⟩, fun hc7 => ⟨c_0, ⟨c_186, (((((H.2 rv2 hq3).2 hz10).2.2.2 hc9).2.2 hc8).2.1 hc7).1, fun μ4 hq6 => ((((((H.2 rv2 hq3).2 hz10).2.2.2 hc9).2.2 hc8).2.1 hc7).2 μ4 hq6)⟩⟩, fun hc7 => (((((H.2 rv2 hq3).2 hz10).2.2.2 hc9).2.2 hc8).2.2 hc7)⟩⟩⟩⟩⟩⟩⟩
set_option maxRecDepth 20000 in
theorem vc_X10_likely_46 {R : Mem → Option AV → Prop} {a k t : Int} {μ : Mem} (ht : isT t) (H : P_X2_sumNow 186 t μ ∧ r64 (F_X2_sumNow 186 t μ) ∧ ((¬ (F_X2_sumNow 186 t μ) = (0 : Int)) → (0 ≤ a ∧ a < 8) ∧ P_X10_commonDivisor (μ 193 a) (F_X2_sumNow 186 t μ) μ ∧ r64 (F_X10_commonDivisor (μ 193 a) (F_X2_sumNow 186 t μ) μ) ∧ ((¬ (F_X10_commonDivisor (μ 193 a) (F_X2_sumNow 186 t μ) μ) = (0 : Int)) → r32 k ∧ ((¬ k = 0) → (r64 (F_X2_sumNow 186 t μ) ∧ r64 (F_X10_commonDivisor (μ 193 a) (F_X2_sumNow 186 t μ) μ) ∧ (F_X10_commonDivisor (μ 193 a) (F_X2_sumNow 186 t μ) μ) ≠ 0) ∧ R μ (some (kL (Int.tdiv (F_X2_sumNow 186 t μ) (F_X10_commonDivisor (μ 193 a) (F_X2_sumNow 186 t μ) μ))))) ∧ (¬ (¬ k = 0) → (r64 (μ 193 a) ∧ r64 (F_X10_commonDivisor (μ 193 a) (F_X2_sumNow 186 t μ) μ) ∧ (F_X10_commonDivisor (μ 193 a) (F_X2_sumNow 186 t μ) μ) ≠ 0) ∧ R μ (some (kL (Int.tdiv (μ 193 a) (F_X10_commonDivisor (μ 193 a) (F_X2_sumNow 186 t μ) μ)))))) ∧ (¬ (¬ (F_X10_commonDivisor (μ 193 a) (F_X2_sumNow 186 t μ) μ) = (0 : Int)) → R μ (some (kL (-1))))) ∧ (¬ (¬ (F_X2_sumNow 186 t μ) = (0 : Int)) → r32 k ∧ R μ (some (kL k)))) : V_X10_likely R 46 [(0, kR 0), (2, kI a), (3, kI k), (4, kR t)] μ := by
  refine vm_step2 mt_X10_likely ok_X10_likely [(46, [0, 2, 3, 4])] 1000 ?_
  show isC 0 10 ∧ isC 186 2 ∧ P_X2_sumNow 186 t μ ∧ (r64 (F_X2_sumNow 186 t μ) ∧ r64 (0 : Int)) ∧ r32 (lcm3 (F_X2_sumNow 186 t μ) (0 : Int)) ∧ ((¬ lcm3 (F_X2_sumNow 186 t μ) (0 : Int) = 0) → isC 0 10 ∧ isC 186 2 ∧ inA 193 1 a ∧ P_X10_commonDivisor (μ 193 a) (F_X2_sumNow 186 t μ) μ ∧ (r64 (F_X10_commonDivisor (μ 193 a) (F_X2_sumNow 186 t μ) μ) ∧ r64 (0 : Int)) ∧ r32 (lcm3 (F_X10_commonDivisor (μ 193 a) (F_X2_sumNow 186 t μ) μ) (0 : Int)) ∧ ((¬ lcm3 (F_X10_commonDivisor (μ 193 a) (F_X2_sumNow 186 t μ) μ) (0 : Int) = 0) → r32 k ∧ ((¬ k = 0) → (r64 (F_X2_sumNow 186 t μ) ∧ r64 (F_X10_commonDivisor (μ 193 a) (F_X2_sumNow 186 t μ) μ) ∧ (F_X10_commonDivisor (μ 193 a) (F_X2_sumNow 186 t μ) μ) ≠ 0) ∧ R μ (some (kL (Int.tdiv (F_X2_sumNow 186 t μ) (F_X10_commonDivisor (μ 193 a) (F_X2_sumNow 186 t μ) μ))))) ∧ (¬ (¬ k = 0) → (r64 (μ 193 a) ∧ r64 (F_X10_commonDivisor (μ 193 a) (F_X2_sumNow 186 t μ) μ) ∧ (F_X10_commonDivisor (μ 193 a) (F_X2_sumNow 186 t μ) μ) ≠ 0) ∧ R μ (some (kL (Int.tdiv (μ 193 a) (F_X10_commonDivisor (μ 193 a) (F_X2_sumNow 186 t μ) μ)))))) ∧ (¬ (¬ lcm3 (F_X10_commonDivisor (μ 193 a) (F_X2_sumNow 186 t μ) μ) (0 : Int) = 0) → R μ (some (kL (-1))))) ∧ (¬ (¬ lcm3 (F_X2_sumNow 186 t μ) (0 : Int) = 0) → r32 k ∧ R μ (some (kL k)))
  exact ⟨c_0, ⟨c_186, H.1, ⟨⟨H.2.1, by unfold r64; omega⟩, lcm3_r _ _, fun hc13 => ⟨c_0, ⟨c_186, ⟨isArr.in a_193 (H.2.2.1 (lcm_ne.mp hc13)).1.1 (H.2.2.1 (lcm_ne.mp hc13)).1.2, ⟨(H.2.2.1 (lcm_ne.mp hc13)).2.1, ⟨⟨(H.2.2.1 (lcm_ne.mp hc13)).2.2.1, by unfold r64; omega⟩, lcm3_r _ _, fun hc12 => ⟨((H.2.2.1 (lcm_ne.mp hc13)).2.2.2.1 (lcm_ne.mp hc12)).1, fun hc11 => ⟨(((H.2.2.1 (lcm_ne.mp hc13)).2.2.2.1 (lcm_ne.mp hc12)).2.1 hc11).1, (((H.2.2.1 (lcm_ne.mp hc13)).2.2.2.1 (lcm_ne.mp hc12)).2.1 hc11).2⟩, fun hc11 => ⟨(((H.2.2.1 (lcm_ne.mp hc13)).2.2.2.1 (lcm_ne.mp hc12)).2.2 hc11).1, (((H.2.2.1 (lcm_ne.mp hc13)).2.2.2.1 (lcm_ne.mp hc12)).2.2 hc11).2⟩⟩, fun hc12 => ((H.2.2.1 (lcm_ne.mp hc13)).2.2.2.2 (fun q => hc12 (lcm_ne.mpr q)))⟩⟩⟩⟩⟩, fun hc13 => ⟨(H.2.2.2 (fun q => hc13 (lcm_ne.mpr q))).1, (H.2.2.2 (fun q => hc13 (lcm_ne.mpr q))).2⟩⟩⟩⟩
theorem body_X10_likely {o n a k : Int} {μ : Mem} {R : Mem → Option AV → Prop} (h : P_X10_likely o n a k μ) (hR : ∀ (μ' : Mem) (r : Int), Q_X10_likely o n a k μ μ' r → R μ' (some (kL r))) : V_X10_likely R 0 [(0, kR o), (1, kI n), (2, kI a), (3, kI k)] μ := by
  obtain ⟨rfl, ⟨c, hc⟩, r_n, r_a, r_k⟩ := h
  obtain ⟨pt, ht⟩ := ask_town hc r_n
  have fin : ∀ (m : Mem) (x : Int), Ask μ m → x = onT (wvC μ 1) n (-1) (likelyT a k) → R m (some (kL x)) := fun m x ha hx => hR m x ⟨ha, hx⟩
  refine vc_X10_likely_0 ⟨pt, fun t q => ?_⟩
  rcases ht t q with ⟨hneg, hno⟩ | ⟨hpos, hr, hl, hm, ht4, hy⟩
  · exact ⟨fun _ => fin μ _ (Ask_0 μ) (hno _ _).symm, fun q => absurd hneg q⟩
  · have hT := hr.1.1
    have ok := hr.1.2
    have hj := hr.2.2.1
    have hp : 2 ≤ μ t 1 ∧ μ t 1 ≤ 8 := ok.1
    have hpe : tv μ t 0 0 = μ t 1 := rfl
    have hle : tv μ t 1 0 = μ t 2 := rfl
    have a0 := Ask_0 μ
    rw [hy] at fin
    unfold likelyT at fin
    refine ⟨fun q => absurd q hpos, fun _ => ?_⟩
    unfold F_X7_has
    by_cases ca : 0 ≤ a ∧ a < μ t 1
    · rw [if_pos ca]
      refine ⟨⟨hT, r_a, hp⟩, rr (by omega), fun q => absurd q (by omega), fun _ => ⟨r_k, fun c1 => fin μ _ a0 ?_, fun c1 => ⟨r_k, fun c2 => ⟨⟨rfl, hr.1, hr.2.2.2.1⟩, fun m4 q4 => vc_X10_likely_46 hT ?_⟩, fun c2 => fin μ _ a0 ?_⟩⟩⟩
      · rw [if_neg (by omega)]
      · obtain ⟨hd, hf⟩ := q4
        have frt : ∀ z : Int, t ≤ z → z ≤ t + 9 → m4 z = μ z := fun z z0 z1 => hf z (by omega) (by omega) (by omega)
        have hr4 := TR_frame hr frt
        have etv := tv_frame frt
        have hA : Ask μ m4 := Ask_far fun z hz => hf z (by omega) (by omega) (by omega)
        have hdd : 0 ≤ tv μ t 12 0 ∧ tv μ t 12 0 ≤ 7 := ok.2.2.2.2.2.2.2.2.2.1
        have hb : ∀ a : Int, 0 ≤ a → a < tv μ t 0 0 → 0 ≤ m4 193 a ∧ m4 193 a ≤ 100000000000000000 := fun a a0 a1 => by
          rw [hd a a0 a1]; exact diaV_bd ok hr.2.2.2.1 hdd.1 hdd.2 a0 a1
        have es : sm (m4 193) (tv μ t 0 0) = sm (diaV (tv μ t) (tv μ t 12 0)) (tv μ t 0 0) := sm_congr hd
        have sb := sm_bd (f := m4 193) (n := tv μ t 0 0) (c := 0) (d := 100000000000000000) hb (by omega)
        have ba := hb a ca.1 ca.2
        have hs : 0 ≤ sm (m4 193) (tv μ t 0 0) ∧ sm (m4 193) (tv μ t 0 0) ≤ 800000000000000000 := by omega
        unfold F_X2_sumNow
        unfold F_X10_commonDivisor
        rw [etv]
        refine ⟨⟨rfl, hr4.1⟩, rl (by omega), fun c3 => ?_, fun c3 => ⟨r_k, fin m4 _ hA ?_⟩⟩
        · have gb := gcdI_bd (a := m4 193 a) (b := sm (m4 193) (tv μ t 0 0)) (by omega)
          refine ⟨by omega, ⟨by omega, by omega⟩, rl (by omega), fun c4 => ⟨r_k, fun c5 => ⟨⟨rl (by omega), rl (by omega), c4⟩, fin m4 _ hA ?_⟩, fun c5 => ⟨⟨rl (by omega), rl (by omega), c4⟩, fin m4 _ hA ?_⟩⟩, fun c4 => absurd (show ¬ _ = (0 : Int) by omega) c4⟩
          · rw [if_pos (by omega), ← es, if_neg c3, if_neg c5, ← hd a ca.1 ca.2]
          · rw [if_pos (by omega), ← es, if_neg c3, if_pos (Classical.byContradiction c5), ← hd a ca.1 ca.2]
        · rw [if_pos (by omega), ← es, if_pos (Classical.byContradiction c3)]
      · rw [if_neg (by omega)]
    · rw [if_neg ca]
      exact ⟨⟨hT, r_a, hp⟩, rr (by omega), fun _ => fin μ _ a0 (if_neg (fun q => ca q.1)).symm, fun q => absurd rfl q⟩
theorem ct_X10_likely : Ct mX10_likely 4 106 0 0 (nrmS S_X10_likely) := by
  refine ct_vm (own := RX10) (by decide +kernel) rfl ?_ ?_
  · intro as μ Q hS
    unfold S_X10_likely at hS
    split at hS
    · exact Nat.le_of_ble_eq_true rfl
    · exact hS.elim
  · intro as μ R hS
    unfold S_X10_likely at hS
    split at hS
    · exact body_X10_likely hS.1 hS.2
    · exact hS.elim
theorem b_shrZ {a k : Int} (ha : r32 a) (h0 : 0 ≤ k) (h1 : k < 31) : bshr a k = a / ((2 ^ k.toNat : Nat) : Int) := by
  unfold bshr
  have hk : ∀ k : Nat, k < 31 → Int32.ofInt (k : Int) &&& 31 = Int32.ofInt (k : Int) := by decide +kernel
  have hk2 : Int32.ofInt k &&& 31 = Int32.ofInt k := by
    have := hk k.toNat (by omega)
    rwa [Int.toNat_of_nonneg h0] at this
  rw [hk2]
  have e : (Int32.ofInt a >>> Int32.ofInt k).toBitVec.toInt = a / ((2 ^ k.toNat : Nat) : Int) := by
    rw [Int32.toBitVec_shiftRight]
    have hs : (Int32.ofInt k).toBitVec.smod 32 = (Int32.ofInt k).toBitVec := by
      have key : ∀ k : Nat, k < 31 → (Int32.ofInt (k : Int)).toBitVec.smod 32 = (Int32.ofInt (k : Int)).toBitVec := by decide +kernel
      have := key k.toNat (by omega)
      rwa [Int.toNat_of_nonneg h0] at this
    have ea : (Int32.ofInt a).toBitVec.toInt = a := n_i ha
    rw [hs, BitVec.sshiftRight_eq', BitVec.toInt_sshiftRight, bv_ofInt h0 (by omega), Int.shiftRight_eq_div_pow, ea]
  exact e
theorem shr_0 {a k : Int} (ha : r32 a) (h0 : 0 ≤ k) (h1 : k < 31) : bshr a k = 0 ↔ (0 ≤ a ∧ a < ((2 ^ k.toNat : Nat) : Int)) := by
  rw [b_shrZ ha h0 h1]
  have hp : 0 < 2 ^ k.toNat := Nat.pow_pos (by omega)
  generalize 2 ^ k.toNat = N at hp ⊢
  have m := Int.emod_add_mul_ediv a (N : Int)
  have m0 := Int.emod_nonneg a (show (N : Int) ≠ 0 by omega)
  have m1 := Int.emod_lt_of_pos a (show (0 : Int) < (N : Int) by omega)
  constructor
  · intro e
    rw [e, Int.mul_zero] at m
    omega
  · intro h
    exact Int.ediv_eq_zero_of_lt h.1 h.2
theorem shr_r (a k : Int) : r32 (bshr a k) := by
  unfold bshr
  have h1 := Int32.toInt_lt (Int32.ofInt a >>> (Int32.ofInt k &&& 31))
  have h2 := Int32.le_toInt (Int32.ofInt a >>> (Int32.ofInt k &&& 31))
  exact rr (by omega)
theorem pow_8 {n : Int} (n1 : n ≤ 8) : 1 ≤ ((2 ^ n.toNat : Nat) : Int) ∧ ((2 ^ n.toNat : Nat) : Int) ≤ 256 := by
  have h1 : 2 ^ n.toNat ≤ 2 ^ 8 := Nat.pow_le_pow_right (by omega) (by omega)
  have h2 : (2 : Nat) ^ 8 = 256 := rfl
  have h3 : 0 < 2 ^ n.toNat := Nat.pow_pos (by omega)
  omega
def rightT (a k : Int) (v : TV) : Int := if (0 ≤ a ∧ a ≤ 12) ∧ 0 ≤ k ∧ k < ((2 ^ (v 0 0).toNat : Nat) : Int) then rightV v a k else -1
def P_X10_right (o n a k : Int) (μ : Mem) : Prop := o = 0 ∧ (∃ c, CI c μ) ∧ r32 n ∧ r32 a ∧ r32 k
def Q_X10_right (_ n a k : Int) (μ μ' : Mem) (r : Int) : Prop := Ask μ μ' ∧ r = onT (wvC μ 1) n (-1) (rightT a k)
def S_X10_right : S0t := fun as μ Q => match as with
  | [(2, x0), (0, x1), (0, x2), (0, x3)] => P_X10_right x0 x1 x2 x3 μ ∧ ∀ (μ' : Mem) (r : Int), Q_X10_right x0 x1 x2 x3 μ μ' r → Q μ' (some (kI r))
  | _ => False
theorem mono_X10_right : Mono S_X10_right := by
  intro as μ Q Q' h hS
  unfold S_X10_right at hS ⊢
  split at hS
  · exact ⟨hS.1, fun μ' r q => h _ _ (hS.2 _ _ q)⟩
  · exact hS.elim
def iX10_right : Inf := (kX10_right, fTX10, pTX10, cTX10, lTX10, sTX10, [(110, 0, 1, 9, S_X9_townAt), (359, 0, 2, 7, S_X7_rightBy)])
theorem ok_X10_right : infOK iX10_right mX10_right RX10 2 47 := ⟨kkX10_right, fTX10_ok, pTX10_ok _, cTX10_ok, lTX10_ok, sTX10_ok, c_cons ⟨mX9_townAt, 0, 0, ct_X9_townAt, mmX9_townAt, vvX9_townAt, lkX10_110, ⟨by decide, by decide⟩, ⟨_, _, rfl⟩, by decide, mono_X9_townAt⟩ (c_cons ⟨mX7_rightBy, 1, 21, ct_X7_rightBy, mmX7_rightBy, vvX7_rightBy, lkX10_359, ⟨by decide, by decide⟩, ⟨_, _, rfl⟩, by decide, mono_X7_rightBy⟩ (c_nil))⟩
theorem mt_X10_right : mtOK [] RX10 2 47 := mt_nil
abbrev V_X10_right (R : Mem → Option AV → Prop) (pc : Nat) (lc : List (Nat × AV)) (μ : Mem) : Prop := VM mX10_right RX10 2 47 R pc lc [] μ
set_option maxRecDepth 20000 in
theorem vc_X10_right_0 {R : Mem → Option AV → Prop} {n a k : Int} {μ : Mem} (H : P_X9_townAt 1 n μ ∧ (∀ (rv2 : Int), Q_X9_townAt 1 n μ rv2 → (rv2 < 0 → R μ (some (kI (-1)))) ∧ (¬ rv2 < 0 → r32 a ∧ ((a < 0) → R μ (some (kI (-1)))) ∧ (¬ (a < 0) → r32 a ∧ (((12 : Int) < a) → R μ (some (kI (-1)))) ∧ (¬ ((12 : Int) < a) → r32 (bshr k (μ rv2 1)) ∧ (((bshr k (μ rv2 1)) = 0) → P_X7_rightBy rv2 a k μ ∧ R μ (some (kI (F_X7_rightBy rv2 a k μ)))) ∧ (¬ ((bshr k (μ rv2 1)) = 0) → R μ (some (kI (-1))))))))) : V_X10_right R 0 [(0, kR 0), (1, kI n), (2, kI a), (3, kI k)] μ := by
  refine vm_step2 mt_X10_right ok_X10_right [] 1000 ?_
  show isC 0 10 ∧ isC 1 9 ∧ P_X9_townAt 1 n μ ∧ (∀ (rv2 : Int), Q_X9_townAt 1 n μ rv2 → (rv2 < 0 → R μ (some (kI (-1)))) ∧ (¬ rv2 < 0 → r32 a ∧ ((a < 0) → R μ (some (kI (-1)))) ∧ (¬ (a < 0) → (r32 a ∧ r32 (12 : Int)) ∧ (((12 : Int) < a) → R μ (some (kI (-1)))) ∧ (¬ ((12 : Int) < a) → isC rv2 7 ∧ r32 (bshr k (μ rv2 1)) ∧ (((bshr k (μ rv2 1)) = 0) → isC rv2 7 ∧ P_X7_rightBy rv2 a k μ ∧ R μ (some (kI (F_X7_rightBy rv2 a k μ)))) ∧ (¬ ((bshr k (μ rv2 1)) = 0) → R μ (some (kI (-1))))))))
  exact ⟨c_0, ⟨c_1, H.1, fun rv2 hq3 => ⟨fun hz7 => ((H.2 rv2 hq3).1 hz7), fun hz7 => have h_rv2 := hq3.2.2 hz7; ⟨((H.2 rv2 hq3).2 hz7).1, fun hc6 => (((H.2 rv2 hq3).2 hz7).2.1 hc6), fun hc6 => ⟨⟨(((H.2 rv2 hq3).2 hz7).2.2 hc6).1, by unfold r32; omega⟩, fun hc5 => ((((H.2 rv2 hq3).2 hz7).2.2 hc6).2.1 hc5), fun hc5 => ⟨isT_C h_rv2, ⟨((((H.2 rv2 hq3).2 hz7).2.2 hc6).2.2 hc5).1, fun hc4 => ⟨isT_C h_rv2, (((((H.2 rv2 hq3).2 hz7).2.2 hc6).2.2 hc5).2.1 hc4).1, (((((H.2 rv2 hq3).2 hz7).2.2 hc6).2.2 hc5).2.1 hc4).2⟩, fun hc4 => (((((H.2 rv2 hq3).2 hz7).2.2 hc6).2.2 hc5).2.2 hc4)⟩⟩⟩⟩⟩⟩⟩
theorem body_X10_right {o n a k : Int} {μ : Mem} {R : Mem → Option AV → Prop} (h : P_X10_right o n a k μ) (hR : ∀ (μ' : Mem) (r : Int), Q_X10_right o n a k μ μ' r → R μ' (some (kI r))) : V_X10_right R 0 [(0, kR o), (1, kI n), (2, kI a), (3, kI k)] μ := by
  obtain ⟨rfl, ⟨c, hc⟩, r_n, r_a, r_k⟩ := h
  obtain ⟨pt, ht⟩ := ask_town hc r_n
  have fin : ∀ (m : Mem) (x : Int), Ask μ m → x = onT (wvC μ 1) n (-1) (rightT a k) → R m (some (kI x)) := fun m x ha hx => hR m x ⟨ha, hx⟩
  refine vc_X10_right_0 ⟨pt, fun t q => ?_⟩
  rcases ht t q with ⟨hneg, hno⟩ | ⟨hpos, hr, hl, hm, ht4, hy⟩
  · exact ⟨fun _ => fin μ _ (Ask_0 μ) (hno _ _).symm, fun q => absurd hneg q⟩
  · have hT := hr.1.1
    have ok := hr.1.2
    have hj := hr.2.2.1
    have hp : 2 ≤ μ t 1 ∧ μ t 1 ≤ 8 := ok.1
    have hpe : tv μ t 0 0 = μ t 1 := rfl
    have hle : tv μ t 1 0 = μ t 2 := rfl
    have a0 := Ask_0 μ
    rw [hy] at fin
    unfold rightT at fin
    refine ⟨fun q => absurd q hpos, fun _ => ?_⟩
    have p8 := pow_8 (n := μ t 1) (by omega)
    have s0 := shr_0 (k := μ t 1) r_k (by omega) (by omega)
    rw [hpe] at fin
    refine ⟨r_a, fun c1 => fin μ _ a0 ?_, fun c1 => ⟨r_a, fun c2 => fin μ _ a0 ?_, fun c2 => ⟨shr_r _ _, fun c3 => ?_, fun c3 => fin μ _ a0 ?_⟩⟩⟩
    · rw [if_neg (by omega)]
    · rw [if_neg (by omega)]
    · have h3 := s0.1 c3
      refine ⟨⟨hr.1, by omega, by omega⟩, fin μ _ a0 ?_⟩
      rw [if_pos ⟨by omega, h3⟩]; rfl
    · rw [if_neg (fun q => c3 (s0.2 q.2))]
theorem ct_X10_right : Ct mX10_right 2 47 0 0 (nrmS S_X10_right) := by
  refine ct_vm (own := RX10) (by decide +kernel) rfl ?_ ?_
  · intro as μ Q hS
    unfold S_X10_right at hS
    split at hS
    · exact Nat.le_of_ble_eq_true rfl
    · exact hS.elim
  · intro as μ R hS
    unfold S_X10_right at hS
    split at hS
    · exact body_X10_right hS.1 hS.2
    · exact hS.elim
theorem inV_bd (h set a : Int) (hh : 0 ≤ h ∧ h ≤ 12) : 0 ≤ inV h set a ∧ inV h set a ≤ 12 := by
  unfold inV
  by_cases hb : hasB set a = true
  · rw [if_pos hb]; omega
  · rw [if_neg hb]; omega
theorem rightV_bd {v : TV} (ok : TVok v) {h set : Int} (hh : 0 ≤ h ∧ h ≤ 12) : 0 ≤ rightV v h set ∧ rightV v h set ≤ 2376 := by
  have hp := ok.1
  have bd : ∀ (g : Int → Int), (∀ a, 0 ≤ g a ∧ g a ≤ 12) → 0 ≤ fold (fun m a => max m (v 4 a * g a)) 0 (v 0 0) ∧ fold (fun m a => max m (v 4 a * g a)) 0 (v 0 0) ≤ 1188 := by
    intro g hg
    refine fold_ind (P := fun _ m => 0 ≤ m ∧ m ≤ 1188) (by omega) (fun i m i0 i1 q => ?_) (by omega)
    have hc := (ok.2.2.2.1 i i0 (by omega)).1
    have := mul_bd hc.1 hc.2 (hg i).1 (hg i).2
    omega
  have h1 := bd (inV h set) (fun a => inV_bd h set a hh)
  have h2 := bd (fun a => 12 - inV h set a) (fun a => by have := inV_bd h set a hh; omega)
  unfold rightV
  omega
def boxT (a : Int) (v : TV) : Int := if 0 ≤ a ∧ a ≤ 12 then maxAt (rightV v a) (((2 ^ (v 0 0).toNat : Nat) : Int) - 1) else -1
def P_X10_box (o n a : Int) (μ : Mem) : Prop := o = 0 ∧ (∃ c, CI c μ) ∧ r32 n ∧ r32 a
def Q_X10_box (_ n a : Int) (μ μ' : Mem) (r : Int) : Prop := Ask μ μ' ∧ r = onT (wvC μ 1) n (-1) (boxT a)
def S_X10_box : S0t := fun as μ Q => match as with
  | [(2, x0), (0, x1), (0, x2)] => P_X10_box x0 x1 x2 μ ∧ ∀ (μ' : Mem) (r : Int), Q_X10_box x0 x1 x2 μ μ' r → Q μ' (some (kI r))
  | _ => False
theorem mono_X10_box : Mono S_X10_box := by
  intro as μ Q Q' h hS
  unfold S_X10_box at hS ⊢
  split at hS
  · exact ⟨hS.1, fun μ' r q => h _ _ (hS.2 _ _ q)⟩
  · exact hS.elim
def iX10_box : Inf := (kX10_box, fTX10, pTX10, cTX10, lTX10, sTX10, [(110, 0, 1, 9, S_X9_townAt), (359, 0, 2, 7, S_X7_rightBy)])
theorem ok_X10_box : infOK iX10_box mX10_box RX10 2 47 := ⟨kkX10_box, fTX10_ok, pTX10_ok _, cTX10_ok, lTX10_ok, sTX10_ok, c_cons ⟨mX9_townAt, 0, 0, ct_X9_townAt, mmX9_townAt, vvX9_townAt, lkX10_110, ⟨by decide, by decide⟩, ⟨_, _, rfl⟩, by decide, mono_X9_townAt⟩ (c_cons ⟨mX7_rightBy, 1, 21, ct_X7_rightBy, mmX7_rightBy, vvX7_rightBy, lkX10_359, ⟨by decide, by decide⟩, ⟨_, _, rfl⟩, by decide, mono_X7_rightBy⟩ (c_nil))⟩
theorem mt_X10_box : mtOK [] RX10 2 47 := mt_nil
abbrev V_X10_box (R : Mem → Option AV → Prop) (pc : Nat) (lc : List (Nat × AV)) (μ : Mem) : Prop := VM mX10_box RX10 2 47 R pc lc [] μ
set_option maxRecDepth 20000 in
theorem vc_X10_box_0 {R : Mem → Option AV → Prop} {n a : Int} {μ : Mem} (H : P_X9_townAt 1 n μ ∧ (∀ (rv2 : Int), Q_X9_townAt 1 n μ rv2 → (rv2 < 0 → R μ (some (kI (-1)))) ∧ (¬ rv2 < 0 → r32 a ∧ ((a < 0) → R μ (some (kI (-1)))) ∧ (¬ (a < 0) → r32 a ∧ ((a ≤ (12 : Int)) → P_X7_rightBy rv2 a 0 μ ∧ V_X10_box R 39 [(2, kI a), (3, kR rv2), (4, kI 0), (5, kI (F_X7_rightBy rv2 a 0 μ)), (6, kI 1)] μ) ∧ (¬ (a ≤ (12 : Int)) → R μ (some (kI (-1)))))))) : V_X10_box R 0 [(0, kR 0), (1, kI n), (2, kI a)] μ := by
  refine vm_step2 mt_X10_box ok_X10_box [(39, [2, 3, 4, 5, 6])] 1000 ?_
  show isC 0 10 ∧ isC 1 9 ∧ P_X9_townAt 1 n μ ∧ (∀ (rv2 : Int), Q_X9_townAt 1 n μ rv2 → (rv2 < 0 → R μ (some (kI (-1)))) ∧ (¬ rv2 < 0 → r32 a ∧ ((a < 0) → R μ (some (kI (-1)))) ∧ (¬ (a < 0) → (r32 a ∧ r32 (12 : Int)) ∧ ((a ≤ (12 : Int)) → isC rv2 7 ∧ P_X7_rightBy rv2 a 0 μ ∧ V_X10_box R 39 [(2, kI a), (3, kR rv2), (4, kI 0), (5, kI (F_X7_rightBy rv2 a 0 μ)), (6, kI 1)] μ) ∧ (¬ (a ≤ (12 : Int)) → R μ (some (kI (-1)))))))
  exact ⟨c_0, ⟨c_1, H.1, fun rv2 hq3 => ⟨fun hz6 => ((H.2 rv2 hq3).1 hz6), fun hz6 => have h_rv2 := hq3.2.2 hz6; ⟨((H.2 rv2 hq3).2 hz6).1, fun hc5 => (((H.2 rv2 hq3).2 hz6).2.1 hc5), fun hc5 => ⟨⟨(((H.2 rv2 hq3).2 hz6).2.2 hc5).1, by unfold r32; omega⟩, fun hc4 => ⟨isT_C h_rv2, ((((H.2 rv2 hq3).2 hz6).2.2 hc5).2.1 hc4).1, ((((H.2 rv2 hq3).2 hz6).2.2 hc5).2.1 hc4).2⟩, fun hc4 => ((((H.2 rv2 hq3).2 hz6).2.2 hc5).2.2 hc4)⟩⟩⟩⟩⟩
set_option maxRecDepth 20000 in
theorem vc_X10_box_39 {R : Mem → Option AV → Prop} {a v4 v5 v6 t : Int} {μ : Mem} (ht : isT t) (H : r32 v6 ∧ r32 (bshl 1 (μ t 1)) ∧ (((bshl 1 (μ t 1)) ≤ v6) → R μ (some (kI v4))) ∧ (¬ ((bshl 1 (μ t 1)) ≤ v6) → P_X7_rightBy t a v6 μ ∧ r32 (F_X7_rightBy t a v6 μ) ∧ r32 v5 ∧ (((F_X7_rightBy t a v6 μ) ≤ v5) → V_X10_box R 39 [(2, kI a), (3, kR t), (4, kI v4), (5, kI v5), (6, kI (v6 + 1))] μ) ∧ (¬ ((F_X7_rightBy t a v6 μ) ≤ v5) → V_X10_box R 39 [(2, kI a), (3, kR t), (4, kI v6), (5, kI (F_X7_rightBy t a v6 μ)), (6, kI (v6 + 1))] μ))) : V_X10_box R 39 [(2, kI a), (3, kR t), (4, kI v4), (5, kI v5), (6, kI v6)] μ := by
  refine vm_step2 mt_X10_box ok_X10_box [(39, [2, 3, 4, 5, 6])] 1000 ?_
  show isC t 7 ∧ (r32 v6 ∧ r32 (bshl 1 (μ t 1))) ∧ (((bshl 1 (μ t 1)) ≤ v6) → R μ (some (kI v4))) ∧ (¬ ((bshl 1 (μ t 1)) ≤ v6) → isC t 7 ∧ P_X7_rightBy t a v6 μ ∧ (r32 (F_X7_rightBy t a v6 μ) ∧ r32 v5) ∧ (((F_X7_rightBy t a v6 μ) ≤ v5) → V_X10_box R 39 [(2, kI a), (3, kR t), (4, kI v4), (5, kI v5), (6, kI (v6 + 1))] μ) ∧ (¬ ((F_X7_rightBy t a v6 μ) ≤ v5) → V_X10_box R 39 [(2, kI a), (3, kR t), (4, kI v6), (5, kI (F_X7_rightBy t a v6 μ)), (6, kI (v6 + 1))] μ))
  exact ⟨isT_C ht, ⟨⟨H.1, H.2.1⟩, fun hc8 => (H.2.2.1 hc8), fun hc8 => ⟨isT_C ht, (H.2.2.2 hc8).1, ⟨⟨(H.2.2.2 hc8).2.1, (H.2.2.2 hc8).2.2.1⟩, fun hc7 => ((H.2.2.2 hc8).2.2.2.1 hc7), fun hc7 => ((H.2.2.2 hc8).2.2.2.2 hc7)⟩⟩⟩⟩
theorem body_X10_box {o n a : Int} {μ : Mem} {R : Mem → Option AV → Prop} (h : P_X10_box o n a μ) (hR : ∀ (μ' : Mem) (r : Int), Q_X10_box o n a μ μ' r → R μ' (some (kI r))) : V_X10_box R 0 [(0, kR o), (1, kI n), (2, kI a)] μ := by
  obtain ⟨rfl, ⟨c, hc⟩, r_n, r_a⟩ := h
  obtain ⟨pt, ht⟩ := ask_town hc r_n
  have fin : ∀ (m : Mem) (x : Int), Ask μ m → x = onT (wvC μ 1) n (-1) (boxT a) → R m (some (kI x)) := fun m x ha hx => hR m x ⟨ha, hx⟩
  refine vc_X10_box_0 ⟨pt, fun t q => ?_⟩
  rcases ht t q with ⟨hneg, hno⟩ | ⟨hpos, hr, hl, hm, ht4, hy⟩
  · exact ⟨fun _ => fin μ _ (Ask_0 μ) (hno _ _).symm, fun q => absurd hneg q⟩
  · have hT := hr.1.1
    have ok := hr.1.2
    have hj := hr.2.2.1
    have hp : 2 ≤ μ t 1 ∧ μ t 1 ≤ 8 := ok.1
    have hpe : tv μ t 0 0 = μ t 1 := rfl
    have hle : tv μ t 1 0 = μ t 2 := rfl
    have a0 := Ask_0 μ
    rw [hy] at fin
    unfold boxT at fin
    refine ⟨fun q => absurd q hpos, fun _ => ?_⟩
    have p8 := pow_8 (n := μ t 1) (by omega)
    have es := b_shl (k := μ t 1) (by omega) (by omega)
    rw [hpe] at fin
    refine ⟨r_a, fun c1 => fin μ _ a0 ?_, fun c1 => ⟨r_a, fun c2 => ⟨⟨hr.1, by omega, by omega⟩, ?_⟩, fun c2 => fin μ _ a0 ?_⟩⟩
    · rw [if_neg (by omega)]
    · rw [if_pos (by omega)] at fin
      have key := up_ind (P := fun s => V_X10_box R 39 [(2, kI a), (3, kR t), (4, kI (maxAt (rightV (tv μ t) a) s)), (5, kI (rightV (tv μ t) a (maxAt (rightV (tv μ t) a) s))), (6, kI (s + 1))] μ) (lo := 0) (hi := ((2 ^ (μ t 1).toNat : Nat) : Int) - 1) ?_ ?_ 0 (by omega) (by omega)
      · exact key
      · intro s s0 s1 ih
        rw [maxAt_s s0] at ih
        have mb := maxAt_bd (f := rightV (tv μ t) a) s0
        have r1 := rightV_bd (set := s + 1) ok (show 0 ≤ a ∧ a ≤ 12 by omega)
        have r2 := rightV_bd (set := maxAt (rightV (tv μ t) a) s) ok (show 0 ≤ a ∧ a ≤ 12 by omega)
        refine vc_X10_box_39 hT ?_
        rw [es]
        unfold F_X7_rightBy
        refine ⟨rr (by omega), rr (by omega), fun c => absurd c (by omega), fun _ => ⟨⟨hr.1, by omega, by omega⟩, rr (by omega), rr (by omega), fun c => ?_, fun c => ?_⟩⟩
        · rw [if_neg (by omega)] at ih; exact ih
        · rw [if_pos (by omega)] at ih; exact ih
      · refine vc_X10_box_39 hT ?_
        rw [es]
        exact ⟨rr (by omega), rr (by omega), fun _ => fin μ _ a0 rfl, fun c => absurd c (by omega)⟩
    · rw [if_neg (by omega)]
theorem ct_X10_box : Ct mX10_box 2 47 0 0 (nrmS S_X10_box) := by
  refine ct_vm (own := RX10) (by decide +kernel) rfl ?_ ?_
  · intro as μ Q hS
    unfold S_X10_box at hS
    split at hS
    · exact Nat.le_of_ble_eq_true rfl
    · exact hS.elim
  · intro as μ R hS
    unfold S_X10_box at hS
    split at hS
    · exact body_X10_box hS.1 hS.2
    · exact hS.elim
