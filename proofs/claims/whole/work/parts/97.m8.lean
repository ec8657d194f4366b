def P_X11_placesOf (o t : Int) (μ : Mem) : Prop := o = 201 ∧ MB μ ∧ CR μ (awM μ) ∧ 0 ≤ t ∧ t < 256
def F_X11_placesOf (_ t : Int) (μ : Mem) : Int := exS (awM μ) t
def S_X11_placesOf : S0t := fun as μ Q => match as with
  | [(2, x0), (0, x1)] => P_X11_placesOf x0 x1 μ ∧ Q μ (some (kI (F_X11_placesOf x0 x1 μ)))
  | _ => False
theorem mono_X11_placesOf : Mono S_X11_placesOf := by
  intro as μ Q Q' h hS
  unfold S_X11_placesOf at hS ⊢
  split at hS
  · exact ⟨hS.1, h _ _ hS.2⟩
  · exact hS.elim
def iX11_placesOf : Inf := (kX11_placesOf, fTX11, pTX11, cTX11, lTX11, sTX11, [])
theorem ok_X11_placesOf : infOK iX11_placesOf mX11_placesOf RX11 0 0 := ⟨kkX11_placesOf, fTX11_ok, pTX11_ok _, cTX11_ok, lTX11_ok, sTX11_ok, c_nil⟩
theorem mt_X11_placesOf : mtOK [] RX11 0 0 := mt_nil
abbrev V_X11_placesOf (R : Mem → Option AV → Prop) (pc : Nat) (lc : List (Nat × AV)) (μ : Mem) : Prop := VM mX11_placesOf RX11 0 0 R pc lc [] μ
set_option maxRecDepth 20000 in
theorem vc_X11_placesOf_0 {R : Mem → Option AV → Prop} {s : Int} {μ : Mem} (H : V_X11_placesOf R 4 [(0, kR 201), (1, kI s), (2, kI 0), (3, kI 0)] μ) : V_X11_placesOf R 0 [(0, kR 201), (1, kI s)] μ := by
  refine vm_step2 mt_X11_placesOf ok_X11_placesOf [(4, [0, 1, 2, 3])] 1000 ?_
  show V_X11_placesOf R 4 [(0, kR 201), (1, kI s), (2, kI 0), (3, kI 0)] μ
  exact H
set_option maxRecDepth 20000 in
theorem vc_X11_placesOf_4 {R : Mem → Option AV → Prop} {s bits k : Int} {μ : Mem} (H : r32 k ∧ r32 (μ 201 14) ∧ (((μ 201 14) ≤ k) → R μ (some (kI bits))) ∧ (¬ ((μ 201 14) ≤ k) → r32 (band (bshr s k) 1) ∧ ((¬ (band (bshr s k) 1) = (1 : Int)) → V_X11_placesOf R 4 [(0, kR 201), (1, kI s), (2, kI (bor bits 0)), (3, kI (k + 1))] μ) ∧ (¬ (¬ (band (bshr s k) 1) = (1 : Int)) → (0 ≤ k ∧ k < 7) ∧ V_X11_placesOf R 4 [(0, kR 201), (1, kI s), (2, kI (bor bits (bshl 1 (μ 205 k)))), (3, kI (k + 1))] μ))) : V_X11_placesOf R 4 [(0, kR 201), (1, kI s), (2, kI bits), (3, kI k)] μ := by
  refine vm_step2 mt_X11_placesOf ok_X11_placesOf [(4, [0, 1, 2, 3])] 1000 ?_
  show isC 201 11 ∧ (r32 k ∧ r32 (μ 201 14)) ∧ (((μ 201 14) ≤ k) → R μ (some (kI bits))) ∧ (¬ ((μ 201 14) ≤ k) → (r32 (band (bshr s k) 1) ∧ r32 (1 : Int)) ∧ ((¬ (band (bshr s k) 1) = (1 : Int)) → V_X11_placesOf R 4 [(0, kR 201), (1, kI s), (2, kI (bor bits 0)), (3, kI (k + 1))] μ) ∧ (¬ (¬ (band (bshr s k) 1) = (1 : Int)) → isC 201 11 ∧ inA 205 0 k ∧ V_X11_placesOf R 4 [(0, kR 201), (1, kI s), (2, kI (bor bits (bshl 1 (μ 205 k)))), (3, kI (k + 1))] μ))
  exact ⟨c_201, ⟨⟨H.1, H.2.1⟩, fun hc2 => (H.2.2.1 hc2), fun hc2 => ⟨⟨(H.2.2.2 hc2).1, by unfold r32; omega⟩, fun hc1 => ((H.2.2.2 hc2).2.1 hc1), fun hc1 => ⟨c_201, ⟨isArr.in a_205 ((H.2.2.2 hc2).2.2 hc1).1.1 ((H.2.2.2 hc2).2.2 hc1).1.2, ((H.2.2.2 hc2).2.2 hc1).2⟩⟩⟩⟩⟩
theorem or_put {x a y : Int} (x0 : 0 ≤ x) (x1 : x < 256) (a0 : 0 ≤ a) (a1 : a < 8) (y0 : 0 ≤ y) (y1 : y < 256) (h : ∀ b : Int, 0 ≤ b → b < 8 → hasB y b = (hasB x b || decide (b = a))) : bor x (bshl 1 a) = y := by
  have p2 : (2 ^ a.toNat : Nat) ≤ 2 ^ 7 := Nat.pow_le_pow_right (by omega) (by omega)
  have p1 : 0 < (2 ^ a.toNat : Nat) := Nat.two_pow_pos _
  rw [b_shl a0 (by omega), b_or x0 (by omega) (by omega) (by omega), Int.toNat_natCast]
  have hlt : x.toNat ||| 2 ^ a.toNat < 2 ^ 8 := Nat.or_lt_two_pow (by omega) (by omega)
  refine set_ext (by omega) (by omega) y0 y1 fun b b0 b1 => ?_
  rw [h b b0 b1]
  unfold hasB
  rw [Int.toNat_natCast, Nat.testBit_or, Nat.testBit_two_pow]
  congr 1
  by_cases e : b = a
  · rw [e, decide_eq_true rfl, decide_eq_true rfl]
  · rw [decide_eq_false e, decide_eq_false (by omega)]
theorem body_X11_placesOf {o s : Int} {μ : Mem} {R : Mem → Option AV → Prop} (h : P_X11_placesOf o s μ) (hR : R μ (some (kI (F_X11_placesOf o s μ)))) : V_X11_placesOf R 0 [(0, kR o), (1, kI s)] μ := by
  obtain ⟨rfl, hb, hc, s0, s1⟩ := h
  have ok := hb.v
  have pb := popc_bd (s := awM μ)
  have p7 : popc (awM μ) ≤ 7 := away_7 ok
  have e14 := hc.1
  -- the places of the first k numbers
  have pbd : ∀ k : Int, 0 ≤ bitsV (fun a => hasB (awM μ) a && (hasB s (cntB (awM μ) a) && decide (cntB (awM μ) a < k))) 8 ∧ bitsV (fun a => hasB (awM μ) a && (hasB s (cntB (awM μ) a) && decide (cntB (awM μ) a < k))) 8 < 256 := fun k => bitsV_bd (by omega)
  have key := up_ind (P := fun k => V_X11_placesOf R 4 [(0, kR 201), (1, kI s), (2, kI (bitsV (fun a => hasB (awM μ) a && (hasB s (cntB (awM μ) a) && decide (cntB (awM μ) a < k))) 8)), (3, kI k)] μ) (lo := 0) (hi := popc (awM μ)) ?_ ?_
  · have := key 0 (by omega) pb.1
    have e0 : bitsV (fun a => hasB (awM μ) a && (hasB s (cntB (awM μ) a) && decide (cntB (awM μ) a < 0))) 8 = 0 := by
      refine set_0 (pbd 0).1 (pbd 0).2 fun a a0 a1 => ?_
      have := (cntB_bd (s := awM μ) (c := a) a0).1
      rw [bitsV_has (by omega) a a0, decide_eq_false (show ¬ cntB (awM μ) a < 0 by omega), Bool.and_false, Bool.and_false, Bool.and_false]
    rw [e0] at this
    exact vc_X11_placesOf_0 this
  · intro k k0 k1 ih
    have et := b_tst (s := s) (a := k) s0 (by omega) k0 (by omega)
    have hm := mth_in k0 k1
    have e5 := hc.2 k k0 k1
    have bk := pbd k
    refine vc_X11_placesOf_4 ?_
    rw [e14, et, e5]
    by_cases hbit : hasB s k = true
    · rw [if_pos hbit]
      refine ⟨rr (by omega), rr (by omega), fun c => absurd c (by omega), fun _ => ⟨rr (by omega), fun c => absurd rfl c, fun _ => ⟨by omega, ?_⟩⟩⟩
      rw [or_put bk.1 bk.2 hm.1.1 hm.1.2 (pbd (k + 1)).1 (pbd (k + 1)).2 (fun b b0 b1 => ?_)]
      · exact ih
      · rw [bitsV_has (by omega) b b0, bitsV_has (by omega) b b0, decide_eq_true b1, Bool.true_and, Bool.true_and]
        by_cases cb : hasB (awM μ) b = true
        · rw [cb, Bool.true_and, Bool.true_and]
          by_cases e : b = mthV (awM μ) k
          · rw [e, mth_cnt k0 k1, hbit, decide_eq_true (show k < k + 1 by omega), decide_eq_true rfl, Bool.or_true]; rfl
          · have : cntB (awM μ) b ≠ k := fun q => e (by rw [← q, mth_at b0 b1 cb])
            rw [decide_eq_false e, Bool.or_false]
            by_cases l : cntB (awM μ) b < k
            · rw [decide_eq_true l, decide_eq_true (by omega)]
            · rw [decide_eq_false l, decide_eq_false (by omega)]
        · have cb' : hasB (awM μ) b = false := by simpa using cb
          have e : b ≠ mthV (awM μ) k := fun q => cb (by rw [q]; exact hm.2)
          rw [cb', decide_eq_false e]; rfl
    · have hb' : hasB s k = false := by simpa using hbit
      have e0 : bor (bitsV (fun a => hasB (awM μ) a && (hasB s (cntB (awM μ) a) && decide (cntB (awM μ) a < k))) 8) 0 = bitsV (fun a => hasB (awM μ) a && (hasB s (cntB (awM μ) a) && decide (cntB (awM μ) a < k + 1))) 8 := by
        rw [b_or bk.1 (by omega) (by omega) (by omega)]
        have : (bitsV (fun a => hasB (awM μ) a && (hasB s (cntB (awM μ) a) && decide (cntB (awM μ) a < k))) 8) = bitsV (fun a => hasB (awM μ) a && (hasB s (cntB (awM μ) a) && decide (cntB (awM μ) a < k + 1))) 8 := by
          refine set_ext bk.1 bk.2 (pbd (k + 1)).1 (pbd (k + 1)).2 fun b b0 b1 => ?_
          rw [bitsV_has (by omega) b b0, bitsV_has (by omega) b b0]
          congr 2
          by_cases e : cntB (awM μ) b = k
          · rw [e, hb', Bool.false_and, Bool.false_and]
          · congr 1
            by_cases l : cntB (awM μ) b < k
            · rw [decide_eq_true l, decide_eq_true (by omega)]
            · rw [decide_eq_false l, decide_eq_false (by omega)]
        rw [← this]
        show ((_ ||| 0 : Nat) : Int) = _
        rw [Nat.or_zero]
        omega
      rw [if_neg hbit, e0]
      exact ⟨rr (by omega), rr (by omega), fun c => absurd c (by omega), fun _ => ⟨rr (by omega), fun _ => ih, fun c => absurd (show ¬ (0 : Int) = 1 by omega) c⟩⟩
  · refine vc_X11_placesOf_4 ?_
    rw [e14]
    refine ⟨rr (by omega), rr (by omega), fun _ => r_eq hR ?_, fun c => absurd (Int.le_refl _) c⟩
    unfold F_X11_placesOf
    refine set_ext ex_bd.1 ex_bd.2 (pbd _).1 (pbd _).2 fun b b0 b1 => ?_
    rw [ex_has b0, bitsV_has (by omega) b b0]
    by_cases cb : hasB (awM μ) b = true
    · have := cnt_lt_pop b0 b1 cb
      rw [decide_eq_true this.2, Bool.and_true]
    · have cb' : hasB (awM μ) b = false := by simpa using cb
      rw [cb', Bool.false_and, Bool.false_and]
theorem ct_X11_placesOf : Ct mX11_placesOf 0 0 0 0 (nrmS S_X11_placesOf) := by
  refine ct_vm (own := RX11) (by decide +kernel) rfl ?_ ?_
  · intro as μ Q hS
    unfold S_X11_placesOf at hS
    split at hS
    · exact Nat.le_of_ble_eq_true rfl
    · exact hS.elim
  · intro as μ R hS
    unfold S_X11_placesOf at hS
    split at hS
    · exact body_X11_placesOf hS.1 hS.2
    · exact hS.elim
def P_X11_couples (o s : Int) (μ : Mem) : Prop := o = 201 ∧ MB μ ∧ 0 ≤ s ∧ s < 256
def F_X11_couples (_ s : Int) (μ : Mem) : Int := coupV (vm μ) s
def S_X11_couples : S0t := fun as μ Q => match as with
  | [(2, x0), (0, x1)] => P_X11_couples x0 x1 μ ∧ Q μ (some (kI (F_X11_couples x0 x1 μ)))
  | _ => False
theorem mono_X11_couples : Mono S_X11_couples := by
  intro as μ Q Q' h hS
  unfold S_X11_couples at hS ⊢
  split at hS
  · exact ⟨hS.1, h _ _ hS.2⟩
  · exact hS.elim
def iX11_couples : Inf := (kX11_couples, fTX11, pTX11, cTX11, lTX11, sTX11, [(209, 0, 1, 11, S_X11_of)])
theorem ok_X11_couples : infOK iX11_couples mX11_couples RX11 1 21 := ⟨kkX11_couples, fTX11_ok, pTX11_ok _, cTX11_ok, lTX11_ok, sTX11_ok, c_cons ⟨mX11_of, 0, 0, ct_X11_of, mmX11_of, vvX11_of, lkX11_209, ⟨by decide, by decide⟩, ⟨_, _, rfl⟩, by decide, mono_X11_of⟩ (c_nil)⟩
theorem mt_X11_couples : mtOK [] RX11 1 21 := mt_nil
abbrev V_X11_couples (R : Mem → Option AV → Prop) (pc : Nat) (lc : List (Nat × AV)) (μ : Mem) : Prop := VM mX11_couples RX11 1 21 R pc lc [] μ
set_option maxRecDepth 20000 in
theorem vc_X11_couples_0 {R : Mem → Option AV → Prop} {s : Int} {μ : Mem} (H : V_X11_couples R 4 [(0, kR 201), (1, kI s), (2, kI 0), (3, kI 0)] μ) : V_X11_couples R 0 [(0, kR 201), (1, kI s)] μ := by
  refine vm_step2 mt_X11_couples ok_X11_couples [(4, [0, 1, 2, 3]), (15, [0, 1, 2, 3, 4])] 1000 ?_
  show V_X11_couples R 4 [(0, kR 201), (1, kI s), (2, kI 0), (3, kI 0)] μ
  exact H
set_option maxRecDepth 20000 in
theorem vc_X11_couples_4 {R : Mem → Option AV → Prop} {s sum a : Int} {μ : Mem} (H : r32 a ∧ r32 (μ 201 13) ∧ (((μ 201 13) ≤ a) → R μ (some (kI sum))) ∧ (¬ ((μ 201 13) ≤ a) → V_X11_couples R 15 [(0, kR 201), (1, kI s), (2, kI sum), (3, kI a), (4, kI 0)] μ)) : V_X11_couples R 4 [(0, kR 201), (1, kI s), (2, kI sum), (3, kI a)] μ := by
  refine vm_step2 mt_X11_couples ok_X11_couples [(4, [0, 1, 2, 3]), (15, [0, 1, 2, 3, 4])] 1000 ?_
  show isC 201 11 ∧ (r32 a ∧ r32 (μ 201 13)) ∧ (((μ 201 13) ≤ a) → R μ (some (kI sum))) ∧ (¬ ((μ 201 13) ≤ a) → V_X11_couples R 15 [(0, kR 201), (1, kI s), (2, kI sum), (3, kI a), (4, kI 0)] μ)
  exact ⟨c_201, ⟨⟨H.1, H.2.1⟩, fun hc1 => (H.2.2.1 hc1), fun hc1 => (H.2.2.2 hc1)⟩⟩
set_option maxRecDepth 20000 in
theorem vc_X11_couples_15 {R : Mem → Option AV → Prop} {s sum a b : Int} {μ : Mem} (H : r32 b ∧ r32 a ∧ ((a ≤ b) → V_X11_couples R 4 [(0, kR 201), (1, kI s), (2, kI sum), (3, kI (a + 1))] μ) ∧ (¬ (a ≤ b) → r32 (band (bshr s a) 1) ∧ ((¬ (band (bshr s a) 1) = (1 : Int)) → V_X11_couples R 15 [(0, kR 201), (1, kI s), (2, kI (sum + 0)), (3, kI a), (4, kI (b + 1))] μ) ∧ (¬ (¬ (band (bshr s a) 1) = (1 : Int)) → r32 (band (bshr s b) 1) ∧ ((¬ (band (bshr s b) 1) = (1 : Int)) → V_X11_couples R 15 [(0, kR 201), (1, kI s), (2, kI (sum + 0)), (3, kI a), (4, kI (b + 1))] μ) ∧ (¬ (¬ (band (bshr s b) 1) = (1 : Int)) → P_X11_of 201 (10 + a) μ ∧ P_X11_of 201 (10 + b) μ ∧ V_X11_couples R 15 [(0, kR 201), (1, kI s), (2, kI (sum + ((F_X11_of 201 (10 + a) μ) * (F_X11_of 201 (10 + b) μ)))), (3, kI a), (4, kI (b + 1))] μ)))) : V_X11_couples R 15 [(0, kR 201), (1, kI s), (2, kI sum), (3, kI a), (4, kI b)] μ := by
  refine vm_step2 mt_X11_couples ok_X11_couples [(4, [0, 1, 2, 3]), (15, [0, 1, 2, 3, 4])] 1000 ?_
  show (r32 b ∧ r32 a) ∧ ((a ≤ b) → V_X11_couples R 4 [(0, kR 201), (1, kI s), (2, kI sum), (3, kI (a + 1))] μ) ∧ (¬ (a ≤ b) → (r32 (band (bshr s a) 1) ∧ r32 (1 : Int)) ∧ ((¬ (band (bshr s a) 1) = (1 : Int)) → V_X11_couples R 15 [(0, kR 201), (1, kI s), (2, kI (sum + 0)), (3, kI a), (4, kI (b + 1))] μ) ∧ (¬ (¬ (band (bshr s a) 1) = (1 : Int)) → (r32 (band (bshr s b) 1) ∧ r32 (1 : Int)) ∧ ((¬ (band (bshr s b) 1) = (1 : Int)) → V_X11_couples R 15 [(0, kR 201), (1, kI s), (2, kI (sum + 0)), (3, kI a), (4, kI (b + 1))] μ) ∧ (¬ (¬ (band (bshr s b) 1) = (1 : Int)) → isC 201 11 ∧ P_X11_of 201 (10 + a) μ ∧ isC 201 11 ∧ P_X11_of 201 (10 + b) μ ∧ V_X11_couples R 15 [(0, kR 201), (1, kI s), (2, kI (sum + ((F_X11_of 201 (10 + a) μ) * (F_X11_of 201 (10 + b) μ)))), (3, kI a), (4, kI (b + 1))] μ)))
  exact ⟨⟨H.1, H.2.1⟩, fun hc4 => (H.2.2.1 hc4), fun hc4 => ⟨⟨(H.2.2.2 hc4).1, by unfold r32; omega⟩, fun hc3 => ((H.2.2.2 hc4).2.1 hc3), fun hc3 => ⟨⟨((H.2.2.2 hc4).2.2 hc3).1, by unfold r32; omega⟩, fun hc2 => (((H.2.2.2 hc4).2.2 hc3).2.1 hc2), fun hc2 => ⟨c_201, (((H.2.2.2 hc4).2.2 hc3).2.2 hc2).1, ⟨c_201, (((H.2.2.2 hc4).2.2 hc3).2.2 hc2).2.1, (((H.2.2.2 hc4).2.2 hc3).2.2 hc2).2.2⟩⟩⟩⟩⟩
theorem body_X11_couples {o s : Int} {μ : Mem} {R : Mem → Option AV → Prop} (h : P_X11_couples o s μ) (hR : R μ (some (kI (F_X11_couples o s μ)))) : V_X11_couples R 0 [(0, kR o), (1, kI s)] μ := by
  obtain ⟨rfl, hb, hs⟩ := h
  have ok := hb.v
  have hp := hb.p
  have hpe := hb.2.1
  have e8 : coupV (vm μ) s = sm (fun a => sm (fun b => if hasB s a = true ∧ hasB s b = true then vm μ 4 a * vm μ 4 b else 0) a) (μ 201 13) := by
    unfold coupV
    refine sm_tail (by omega) (by omega) fun a a0 a1 => ?_
    have h4 := ok.2.2.2.2.1 a (by omega) a1
    have : sm (fun b => if hasB s a = true ∧ hasB s b = true then vm μ 4 a * vm μ 4 b else 0) a = sm (fun _ => 0) a := sm_congr fun b b0 b1 => by
      rw [h4, Int.zero_mul]
      split <;> rfl
    rw [this, sm_zero (by omega)]
  unfold F_X11_couples at hR
  rw [e8] at hR
  refine vc_X11_couples_0 ?_
  refine up_ind (P := fun a => V_X11_couples R 4 [(0, kR 201), (1, kI s), (2, kI (sm (fun a => sm (fun b => if hasB s a = true ∧ hasB s b = true then vm μ 4 a * vm μ 4 b else 0) a) a)), (3, kI a)] μ) (lo := 0) (hi := μ 201 13) ?_ ?_ 0 (by omega) (by omega)
  · intro a a0 a1 iha
    rw [sm_s a0] at iha
    refine vc_X11_couples_4 ⟨rr (by omega), rr (by omega), fun c => absurd c (by omega), fun _ => ?_⟩
    generalize sm (fun a => sm (fun b => if hasB s a = true ∧ hasB s b = true then vm μ 4 a * vm μ 4 b else 0) a) a = S at iha ⊢
    have key := up_ind (P := fun b => V_X11_couples R 15 [(0, kR 201), (1, kI s), (2, kI (S + sm (fun b => if hasB s a = true ∧ hasB s b = true then vm μ 4 a * vm μ 4 b else 0) b)), (3, kI a), (4, kI b)] μ) (lo := 0) (hi := a) ?_ ?_
    · have := key 0 (by omega) a0
      rw [sm_0, Int.add_zero] at this
      exact this
    · intro b b0 b1 ih
      rw [sm_s b0, ← Int.add_assoc] at ih
      have ta := b_tst (s := s) (a := a) hs.1 (by omega) a0 (by omega)
      have tb := b_tst (s := s) (a := b) hs.1 (by omega) b0 (by omega)
      refine vc_X11_couples_15 ?_
      rw [ta, tb, of_4 a0 (by omega), of_4 b0 (by omega)]
      refine ⟨rr (by omega), rr (by omega), fun c => absurd c (by omega), fun _ => ?_⟩
      by_cases ca : hasB s a = true
      · rw [if_pos ca]
        refine ⟨rr (by omega), fun c => absurd rfl c, fun _ => ?_⟩
        by_cases cb : hasB s b = true
        · rw [if_pos cb]
          rw [if_pos ⟨ca, cb⟩] at ih
          exact ⟨rr (by omega), fun c => absurd rfl c, fun _ => ⟨⟨rfl, hb.1, by omega, by omega⟩, ⟨rfl, hb.1, by omega, by omega⟩, ih⟩⟩
        · rw [if_neg cb]
          rw [if_neg (fun q => cb q.2)] at ih
          exact ⟨rr (by omega), fun _ => ih, fun c => absurd (show ¬ (0 : Int) = 1 by omega) c⟩
      · rw [if_neg ca]
        rw [if_neg (fun q => ca q.1)] at ih
        exact ⟨rr (by omega), fun _ => ih, fun c => absurd (show ¬ (0 : Int) = 1 by omega) c⟩
    · exact vc_X11_couples_15 ⟨rr (by omega), rr (by omega), fun _ => iha, fun c => absurd (Int.le_refl _) c⟩
  · exact vc_X11_couples_4 ⟨rr (by omega), rr (by omega), fun _ => hR, fun c => absurd (Int.le_refl _) c⟩
theorem ct_X11_couples : Ct mX11_couples 1 21 0 0 (nrmS S_X11_couples) := by
  refine ct_vm (own := RX11) (by decide +kernel) rfl ?_ ?_
  · intro as μ Q hS
    unfold S_X11_couples at hS
    split at hS
    · exact Nat.le_of_ble_eq_true rfl
    · exact hS.elim
  · intro as μ R hS
    unfold S_X11_couples at hS
    split at hS
    · exact body_X11_couples hS.1 hS.2
    · exact hS.elim
def P_X11_best (o n k : Int) (μ : Mem) : Prop := o = 201 ∧ SOk (stM μ) ∧ r32 n ∧ r32 k
def Q_X11_best (_ n k : Int) (μ μ' : Mem) (r : Int) : Prop := AskM μ μ' ∧ r = onT (stM μ).1 n (-1) (bestT k)
def S_X11_best : S0t := fun as μ Q => match as with
  | [(2, x0), (0, x1), (0, x2)] => P_X11_best x0 x1 x2 μ ∧ ∀ (μ' : Mem) (r : Int), Q_X11_best x0 x1 x2 μ μ' r → Q μ' (some (kI r))
  | _ => False
theorem mono_X11_best : Mono S_X11_best := by
  intro as μ Q Q' h hS
  unfold S_X11_best at hS ⊢
  split at hS
  · exact ⟨hS.1, fun μ' r q => h _ _ (hS.2 _ _ q)⟩
  · exact hS.elim
def iX11_best : Inf := (kX11_best, fTX11, pTX11, cTX11, lTX11, sTX11, [(234, 0, 1, 11, S_X11_looks), (256, 0, 0, 11, S_X11_byChances), (259, 0, 0, 11, S_X11_walks), (262, 0, 1, 11, S_X11_answers)])
theorem ok_X11_best : infOK iX11_best mX11_best RX11 3 68 := ⟨kkX11_best, fTX11_ok, pTX11_ok _, cTX11_ok, lTX11_ok, sTX11_ok, c_cons ⟨mX11_looks, 2, 45, ct_X11_looks, mmX11_looks, vvX11_looks, lkX11_234, ⟨by decide, by decide⟩, ⟨_, _, rfl⟩, by decide, mono_X11_looks⟩ (c_cons ⟨mX11_byChances, 1, 21, ct_X11_byChances, mmX11_byChances, vvX11_byChances, lkX11_256, ⟨by decide, by decide⟩, ⟨_, _, rfl⟩, by decide, mono_X11_byChances⟩ (c_cons ⟨mX11_walks, 1, 22, ct_X11_walks, mmX11_walks, vvX11_walks, lkX11_259, ⟨by decide, by decide⟩, ⟨_, _, rfl⟩, by decide, mono_X11_walks⟩ (c_cons ⟨mX11_answers, 2, 47, ct_X11_answers, mmX11_answers, vvX11_answers, lkX11_262, ⟨by decide, by decide⟩, ⟨_, _, rfl⟩, by decide, mono_X11_answers⟩ (c_nil))))⟩
theorem mt_X11_best : mtOK [] RX11 3 68 := mt_nil
abbrev V_X11_best (R : Mem → Option AV → Prop) (pc : Nat) (lc : List (Nat × AV)) (μ : Mem) : Prop := VM mX11_best RX11 3 68 R pc lc [] μ
set_option maxRecDepth 20000 in
theorem vc_X11_best_0 {R : Mem → Option AV → Prop} {n k : Int} {μ : Mem} (H : P_X11_looks 201 n μ ∧ (∀ (μ1 : Mem) (rv2 : Int), Q_X11_looks 201 n μ μ1 rv2 → r32 rv2 ∧ ((¬ rv2 = 0) → P_X11_byChances 201 μ1 ∧ (∀ (μ4 : Mem), Q_X11_byChances 201 μ1 μ4 → V_X11_best R 14 [(0, kR 201), (2, kI k)] μ4)) ∧ (¬ (¬ rv2 = 0) → R μ1 (some (kI (-1)))))) : V_X11_best R 0 [(0, kR 201), (1, kI n), (2, kI k)] μ := by
  refine vm_step2 mt_X11_best ok_X11_best [(14, [0, 2]), (18, [0, 2])] 1000 ?_
  show isC 201 11 ∧ P_X11_looks 201 n μ ∧ (∀ (μ1 : Mem) (rv2 : Int), Q_X11_looks 201 n μ μ1 rv2 → r32 rv2 ∧ ((¬ rv2 = 0) → isC 201 11 ∧ P_X11_byChances 201 μ1 ∧ (∀ (μ4 : Mem), Q_X11_byChances 201 μ1 μ4 → V_X11_best R 14 [(0, kR 201), (2, kI k)] μ4)) ∧ (¬ (¬ rv2 = 0) → R μ1 (some (kI (-1)))))
  exact ⟨c_201, H.1, fun μ1 rv2 hq3 => ⟨(H.2 μ1 rv2 hq3).1, fun hc7 => ⟨c_201, ((H.2 μ1 rv2 hq3).2.1 hc7).1, fun μ4 hq6 => (((H.2 μ1 rv2 hq3).2.1 hc7).2 μ4 hq6)⟩, fun hc7 => ((H.2 μ1 rv2 hq3).2.2 hc7)⟩⟩
set_option maxRecDepth 20000 in
theorem vc_X11_best_14 {R : Mem → Option AV → Prop} {k : Int} {μ : Mem} (H : P_X11_walks 201 μ ∧ (∀ (μ8 : Mem), Q_X11_walks 201 μ μ8 → V_X11_best R 18 [(0, kR 201), (2, kI k)] μ8)) : V_X11_best R 14 [(0, kR 201), (2, kI k)] μ := by
  refine vm_step2 mt_X11_best ok_X11_best [(14, [0, 2]), (18, [0, 2])] 1000 ?_
  show isC 201 11 ∧ P_X11_walks 201 μ ∧ (∀ (μ8 : Mem), Q_X11_walks 201 μ μ8 → V_X11_best R 18 [(0, kR 201), (2, kI k)] μ8)
  exact ⟨c_201, H.1, fun μ8 hq10 => (H.2 μ8 hq10)⟩
set_option maxRecDepth 20000 in
theorem vc_X11_best_18 {R : Mem → Option AV → Prop} {k : Int} {μ : Mem} (H : P_X11_answers 201 k μ ∧ R μ (some (kI (F_X11_answers 201 k μ)))) : V_X11_best R 18 [(0, kR 201), (2, kI k)] μ := by
  refine vm_step2 mt_X11_best ok_X11_best [(14, [0, 2]), (18, [0, 2])] 1000 ?_
  show isC 201 11 ∧ P_X11_answers 201 k μ ∧ R μ (some (kI (F_X11_answers 201 k μ)))
  exact ⟨c_201, H.1, H.2⟩
theorem wk_of {μ m : Mem} (h : LK μ) (q : Q_X11_byChances 201 μ m) : WKb m ∧ vm m = vm μ ∧ awM m = awM μ ∧ (∀ a b : Int, 0 ≤ a → a < vm μ 0 0 → 0 ≤ b → b < vm μ 0 0 → Wm m a b = wayV (vm μ) a b) ∧ (∀ s : Int, 0 ≤ s → s < 256 → subS s (awM μ) → rm m s = sumV (vm μ) s) ∧ AskM μ m := by
  obtain ⟨q1, q2⟩ := q
  have hb := h.1
  have ok := hb.v
  have vok : VOk (vm μ) := hb.2.2
  obtain ⟨mb, ev⟩ := MB_frame hb (q2 202 (by omega)) (by rw [q2 201 (by omega)]) (by rw [q2 201 (by omega)])
  have ea : awM m = awM μ := by unfold awM; rw [ev]
  have eW : ∀ a b : Int, 0 ≤ a → a < vm μ 0 0 → 0 ≤ b → b < vm μ 0 0 → Wm m a b = wayV (vm μ) a b := fun a b a0 a1 b0 b1 => by
    unfold Wm
    rw [q2 206 (by omega)]
    exact h.2.1 a b a0 a1 b0 b1
  refine ⟨⟨mb, ?_, ?_, ?_⟩, ev, ea, eW, fun s s0 s1 hs => ?_, fun z hz => q2 z (by omega)⟩
  · have := h.2.2
    unfold CR at *
    rw [ea, q2 201 (by omega), q2 205 (by omega)]
    exact this
  · intro a b a0 a1 b0 b1
    rw [ev] at a1 b1
    rw [eW a b a0 a1 b0 b1]
    exact way_ok vok a0 a1 b0 b1
  · intro t t0 t1
    rw [ea] at t1
    rw [q1 t t0 t1]
    have := sumV_bd (s := exS (awM μ) t) ok
    omega
  · have cb := co_bd (s := awM μ) (b := s)
    unfold rm
    rw [ea, q1 _ cb.1 cb.2, co_ex s0 s1 hs]
theorem ans_eq {μ : Mem} {k : Int} {W : Int → Int → Int} {r : Int → Int} (h : WKb μ) (hW : ∀ a b : Int, 0 ≤ a → a < vm μ 0 0 → 0 ≤ b → b < vm μ 0 0 → Wm μ a b = W a b) (hr : ∀ s : Int, 0 ≤ s → s < 256 → subS s (awM μ) → rm μ s = r s) : F_X11_answers 201 k μ = if k < 0 then -1 else if k = 0 then rcV W r (vm μ 0 0) 0 (awM μ) else stopV W r (vm μ 0 0) (awM μ) (k - 1) := by
  have f := h.f
  unfold F_X11_answers
  rw [(rcV_sub (g := awM μ) (by omega) hW hr (Int.le_refl 0) (by omega) f.2.2.1.1 f.2.2.1.2 (fun _ _ _ q => q)).1, stopV_sub (by omega) f.1.2 hW hr f.2.2.1.1 f.2.2.1.2 f.2.2.2.1]
/-- after the routes are reckoned -/
theorem ls_of {μ m : Mem} (h : WKb μ) (q : Q_X11_walks 201 μ m) : WKb m ∧ LSm m ∧ vm m = vm μ ∧ awM m = awM μ ∧ Wm m = Wm μ ∧ rm m = rm μ ∧ AskM μ m := by
  obtain ⟨q1, q2⟩ := q
  have := WKb_frame (m := m) h (fun f _ => by rw [q2 201 (by omega)]) (q2 202 (by omega)) (q2 205 (by omega)) (q2 206 (by omega)) (q2 207 (by omega))
  exact ⟨this.1, q1, this.2.1, this.2.2.1, this.2.2.2.1, this.2.2.2.2, fun z hz => q2 z (by omega)⟩
theorem body_X11_best {o n k : Int} {μ : Mem} {R : Mem → Option AV → Prop} (h : P_X11_best o n k μ) (hR : ∀ (μ' : Mem) (r : Int), Q_X11_best o n k μ μ' r → R μ' (some (kI r))) : V_X11_best R 0 [(0, kR o), (1, kI n), (2, kI k)] μ := by
  obtain ⟨rfl, hs, r_n, r_k⟩ := h
  refine vc_X11_best_0 ⟨⟨rfl, hs, r_n⟩, fun m rv q => ?_⟩
  obtain ⟨q1, q3, q4⟩ := q
  have ask : AskM μ m := fun z hz => q1 z (by omega) (by omega) (by omega)
  by_cases c : 0 ≤ n ∧ n < μ 202 0
  · obtain ⟨rfl, hl, hv⟩ := q4 c
    have hb := hl.1
    have ok := hb.v
    have hp := hb.p
    have hpe := hb.2.1
    have fin : ∀ (m' : Mem) (x : Int), AskM m m' → x = (bestT k) (vm m) → R m' (some (kI x)) := fun m' x ha hx => hR m' x ⟨ask.trans ha, by rw [hx, onM_yes c, ← hv]⟩
    have a0 := AskM_0 m
    refine ⟨rr (by omega), fun _ => ?_, fun q => absurd (show ¬ (1 : Int) = 0 by omega) q⟩
    refine ⟨⟨rfl, hl⟩, fun m4 q5 => vc_X11_best_14 ?_⟩
    obtain ⟨wk, ev, ea, eW, er, ak⟩ := wk_of hl q5
    refine ⟨⟨rfl, wk⟩, fun m8 q8 => vc_X11_best_18 ?_⟩
    obtain ⟨wk8, ls8, ev8, ea8, eW8, er8, ak8⟩ := ls_of wk q8
    refine ⟨⟨rfl, wk8, ls8, r_k⟩, fin m8 _ (ak.trans ak8) ?_⟩
    rw [ans_eq wk8 (W := wayV (vm m)) (r := sumV (vm m)) (fun a b a0 a1 b0 b1 => by
      rw [ev8, ev] at a1 b1
      rw [eW8]
      exact eW a b a0 a1 b0 b1) (fun s s0 s1 hs => by
      rw [ea8, ea] at hs
      rw [er8]
      exact er s s0 s1 hs), ev8, ev, ea8, ea]
    rfl
  · have e := q3 c
    subst e
    exact ⟨rr (by omega), fun q => absurd rfl q, fun _ => hR m _ ⟨ask, (onM_no c).symm⟩⟩
theorem ct_X11_best : Ct mX11_best 3 68 0 0 (nrmS S_X11_best) := by
  refine ct_vm (own := RX11) (by decide +kernel) rfl ?_ ?_
  · intro as μ Q hS
    unfold S_X11_best at hS
    split at hS
    · exact Nat.le_of_ble_eq_true rfl
    · exact hS.elim
  · intro as μ R hS
    unfold S_X11_best at hS
    split at hS
    · exact body_X11_best hS.1 hS.2
    · exact hS.elim
def P_X11_two (o n k : Int) (μ : Mem) : Prop := o = 201 ∧ SOk (stM μ) ∧ r32 n ∧ r32 k
def Q_X11_two (_ n k : Int) (μ μ' : Mem) (r : Int) : Prop := AskM μ μ' ∧ r = onT (stM μ).1 n (-1) (twoT k)
def S_X11_two : S0t := fun as μ Q => match as with
  | [(2, x0), (0, x1), (0, x2)] => P_X11_two x0 x1 x2 μ ∧ ∀ (μ' : Mem) (r : Int), Q_X11_two x0 x1 x2 μ μ' r → Q μ' (some (kI r))
  | _ => False
theorem mono_X11_two : Mono S_X11_two := by
  intro as μ Q Q' h hS
  unfold S_X11_two at hS ⊢
  split at hS
  · exact ⟨hS.1, fun μ' r q => h _ _ (hS.2 _ _ q)⟩
  · exact hS.elim
def iX11_two : Inf := (kX11_two, fTX11, pTX11, cTX11, lTX11, sTX11, [(234, 0, 1, 11, S_X11_looks), (162, 1, 3, 0, S_X11_isIn), (256, 0, 0, 11, S_X11_byChances), (259, 0, 0, 11, S_X11_walks), (250, 0, 0, 11, S_X11_allCellars), (265, 0, 1, 11, S_X11_placesOf)])
theorem ok_X11_two : infOK iX11_two mX11_two RX11 3 66 := ⟨kkX11_two, fTX11_ok, pTX11_ok _, cTX11_ok, lTX11_ok, sTX11_ok, c_cons ⟨mX11_looks, 2, 45, ct_X11_looks, mmX11_looks, vvX11_looks, lkX11_234, ⟨by decide, by decide⟩, ⟨_, _, rfl⟩, by decide, mono_X11_looks⟩ (c_cons ⟨mX11_isIn, 0, 0, ct_X11_isIn, mmX11_isIn, stX11_isIn, lkX11_162, ⟨by decide, by decide⟩, mono_X11_isIn⟩ (c_cons ⟨mX11_byChances, 1, 21, ct_X11_byChances, mmX11_byChances, vvX11_byChances, lkX11_256, ⟨by decide, by decide⟩, ⟨_, _, rfl⟩, by decide, mono_X11_byChances⟩ (c_cons ⟨mX11_walks, 1, 22, ct_X11_walks, mmX11_walks, vvX11_walks, lkX11_259, ⟨by decide, by decide⟩, ⟨_, _, rfl⟩, by decide, mono_X11_walks⟩ (c_cons ⟨mX11_allCellars, 0, 0, ct_X11_allCellars, mmX11_allCellars, vvX11_allCellars, lkX11_250, ⟨by decide, by decide⟩, ⟨_, _, rfl⟩, by decide, mono_X11_allCellars⟩ (c_cons ⟨mX11_placesOf, 0, 0, ct_X11_placesOf, mmX11_placesOf, vvX11_placesOf, lkX11_265, ⟨by decide, by decide⟩, ⟨_, _, rfl⟩, by decide, mono_X11_placesOf⟩ (c_nil))))))⟩
theorem mt_X11_two : mtOK [] RX11 3 66 := mt_nil
abbrev V_X11_two (R : Mem → Option AV → Prop) (pc : Nat) (lc : List (Nat × AV)) (μ : Mem) : Prop := VM mX11_two RX11 3 66 R pc lc [] μ
set_option maxRecDepth 20000 in
theorem vc_X11_two_0 {R : Mem → Option AV → Prop} {n k : Int} {μ : Mem} (H : P_X11_looks 201 n μ ∧ (∀ (μ1 : Mem) (rv2 : Int), Q_X11_looks 201 n μ μ1 rv2 → r32 rv2 ∧ ((rv2 = 0) → R μ1 (some (kI (-1)))) ∧ (¬ (rv2 = 0) → P_X11_isIn k 0 2 μ1 ∧ r32 (F_X11_isIn k 0 2 μ1) ∧ ((¬ (F_X11_isIn k 0 2 μ1) = 0) → P_X11_byChances 201 μ1 ∧ (∀ (μ4 : Mem), Q_X11_byChances 201 μ1 μ4 → V_X11_two R 23 [(0, kR 201), (2, kI k)] μ4)) ∧ (¬ (¬ (F_X11_isIn k 0 2 μ1) = 0) → R μ1 (some (kI (-1))))))) : V_X11_two R 0 [(0, kR 201), (1, kI n), (2, kI k)] μ := by
  refine vm_step2 mt_X11_two ok_X11_two [(23, [0, 2]), (27, [0, 2]), (35, [0, 2, 3, 4, 5])] 1000 ?_
  show isC 201 11 ∧ P_X11_looks 201 n μ ∧ (∀ (μ1 : Mem) (rv2 : Int), Q_X11_looks 201 n μ μ1 rv2 → r32 rv2 ∧ ((rv2 = 0) → R μ1 (some (kI (-1)))) ∧ (¬ (rv2 = 0) → P_X11_isIn k 0 2 μ1 ∧ r32 (F_X11_isIn k 0 2 μ1) ∧ ((¬ (F_X11_isIn k 0 2 μ1) = 0) → isC 201 11 ∧ P_X11_byChances 201 μ1 ∧ (∀ (μ4 : Mem), Q_X11_byChances 201 μ1 μ4 → V_X11_two R 23 [(0, kR 201), (2, kI k)] μ4)) ∧ (¬ (¬ (F_X11_isIn k 0 2 μ1) = 0) → R μ1 (some (kI (-1))))))
  exact ⟨c_201, H.1, fun μ1 rv2 hq3 => ⟨(H.2 μ1 rv2 hq3).1, fun hc8 => ((H.2 μ1 rv2 hq3).2.1 hc8), fun hc8 => ⟨((H.2 μ1 rv2 hq3).2.2 hc8).1, ⟨((H.2 μ1 rv2 hq3).2.2 hc8).2.1, fun hc7 => ⟨c_201, (((H.2 μ1 rv2 hq3).2.2 hc8).2.2.1 hc7).1, fun μ4 hq6 => ((((H.2 μ1 rv2 hq3).2.2 hc8).2.2.1 hc7).2 μ4 hq6)⟩, fun hc7 => (((H.2 μ1 rv2 hq3).2.2 hc8).2.2.2 hc7)⟩⟩⟩⟩
set_option maxRecDepth 20000 in
theorem vc_X11_two_23 {R : Mem → Option AV → Prop} {k : Int} {μ : Mem} (H : P_X11_walks 201 μ ∧ (∀ (μ9 : Mem), Q_X11_walks 201 μ μ9 → V_X11_two R 27 [(0, kR 201), (2, kI k)] μ9)) : V_X11_two R 23 [(0, kR 201), (2, kI k)] μ := by
  refine vm_step2 mt_X11_two ok_X11_two [(23, [0, 2]), (27, [0, 2]), (35, [0, 2, 3, 4, 5])] 1000 ?_
  show isC 201 11 ∧ P_X11_walks 201 μ ∧ (∀ (μ9 : Mem), Q_X11_walks 201 μ μ9 → V_X11_two R 27 [(0, kR 201), (2, kI k)] μ9)
  exact ⟨c_201, H.1, fun μ9 hq11 => (H.2 μ9 hq11)⟩
set_option maxRecDepth 20000 in
theorem vc_X11_two_27 {R : Mem → Option AV → Prop} {k : Int} {μ : Mem} (H : V_X11_two R 35 [(0, kR 201), (2, kI k), (3, kI (-1)), (4, kI 0), (5, kI 0)] μ) : V_X11_two R 27 [(0, kR 201), (2, kI k)] μ := by
  refine vm_step2 mt_X11_two ok_X11_two [(23, [0, 2]), (27, [0, 2]), (35, [0, 2, 3, 4, 5])] 1000 ?_
  show V_X11_two R 35 [(0, kR 201), (2, kI k), (3, kI (-1)), (4, kI 0), (5, kI 0)] μ
  exact H
set_option maxRecDepth 20000 in
theorem vc_X11_two_35 {R : Mem → Option AV → Prop} {k best low s : Int} {μ : Mem} (H : P_X11_allCellars 201 μ ∧ r32 s ∧ r32 (F_X11_allCellars 201 μ) ∧ (((F_X11_allCellars 201 μ) < s) → r32 k ∧ ((¬ k = 0) → r32 k ∧ ((¬ k = (1 : Int)) → P_X11_allCellars 201 μ ∧ P_X11_placesOf 201 (band (F_X11_allCellars 201 μ) (bxor best (-1))) μ ∧ R μ (some (kI (F_X11_placesOf 201 (band (F_X11_allCellars 201 μ) (bxor best (-1))) μ)))) ∧ (¬ (¬ k = (1 : Int)) → P_X11_placesOf 201 best μ ∧ R μ (some (kI (F_X11_placesOf 201 best μ))))) ∧ (¬ (¬ k = 0) → R μ (some (kI low)))) ∧ (¬ ((F_X11_allCellars 201 μ) < s) → (0 ≤ ((8 * s) + 7) ∧ ((8 * s) + 7) < 1024) ∧ P_X11_allCellars 201 μ ∧ (0 ≤ ((8 * (band (F_X11_allCellars 201 μ) (bxor s (-1)))) + 7) ∧ ((8 * (band (F_X11_allCellars 201 μ) (bxor s (-1)))) + 7) < 1024) ∧ r32 best ∧ ((best < 0) → V_X11_two R 35 [(0, kR 201), (2, kI k), (3, kI s), (4, kI ((μ 208 ((8 * s) + 7)) + (μ 208 ((8 * (band (F_X11_allCellars 201 μ) (bxor s (-1)))) + 7)))), (5, kI (s + 1))] μ) ∧ (¬ (best < 0) → r32 ((μ 208 ((8 * s) + 7)) + (μ 208 ((8 * (band (F_X11_allCellars 201 μ) (bxor s (-1)))) + 7))) ∧ r32 low ∧ ((((μ 208 ((8 * s) + 7)) + (μ 208 ((8 * (band (F_X11_allCellars 201 μ) (bxor s (-1)))) + 7))) < low) → V_X11_two R 35 [(0, kR 201), (2, kI k), (3, kI s), (4, kI ((μ 208 ((8 * s) + 7)) + (μ 208 ((8 * (band (F_X11_allCellars 201 μ) (bxor s (-1)))) + 7)))), (5, kI (s + 1))] μ) ∧ (¬ (((μ 208 ((8 * s) + 7)) + (μ 208 ((8 * (band (F_X11_allCellars 201 μ) (bxor s (-1)))) + 7))) < low) → V_X11_two R 35 [(0, kR 201), (2, kI k), (3, kI best), (4, kI low), (5, kI (s + 1))] μ)))) : V_X11_two R 35 [(0, kR 201), (2, kI k), (3, kI best), (4, kI low), (5, kI s)] μ := by
  refine vm_step2 mt_X11_two ok_X11_two [(23, [0, 2]), (27, [0, 2]), (35, [0, 2, 3, 4, 5])] 1000 ?_
  show isC 201 11 ∧ P_X11_allCellars 201 μ ∧ (r32 s ∧ r32 (F_X11_allCellars 201 μ)) ∧ (((F_X11_allCellars 201 μ) < s) → r32 k ∧ ((¬ k = 0) → (r32 k ∧ r32 (1 : Int)) ∧ ((¬ k = (1 : Int)) → isC 201 11 ∧ P_X11_allCellars 201 μ ∧ isC 201 11 ∧ P_X11_placesOf 201 (band (F_X11_allCellars 201 μ) (bxor best (-1))) μ ∧ R μ (some (kI (F_X11_placesOf 201 (band (F_X11_allCellars 201 μ) (bxor best (-1))) μ)))) ∧ (¬ (¬ k = (1 : Int)) → isC 201 11 ∧ P_X11_placesOf 201 best μ ∧ R μ (some (kI (F_X11_placesOf 201 best μ))))) ∧ (¬ (¬ k = 0) → R μ (some (kI low)))) ∧ (¬ ((F_X11_allCellars 201 μ) < s) → isC 201 11 ∧ inA 208 0 ((8 * s) + 7) ∧ isC 201 11 ∧ isC 201 11 ∧ P_X11_allCellars 201 μ ∧ inA 208 0 ((8 * (band (F_X11_allCellars 201 μ) (bxor s (-1)))) + 7) ∧ r32 best ∧ ((best < 0) → V_X11_two R 35 [(0, kR 201), (2, kI k), (3, kI s), (4, kI ((μ 208 ((8 * s) + 7)) + (μ 208 ((8 * (band (F_X11_allCellars 201 μ) (bxor s (-1)))) + 7)))), (5, kI (s + 1))] μ) ∧ (¬ (best < 0) → (r32 ((μ 208 ((8 * s) + 7)) + (μ 208 ((8 * (band (F_X11_allCellars 201 μ) (bxor s (-1)))) + 7))) ∧ r32 low) ∧ ((((μ 208 ((8 * s) + 7)) + (μ 208 ((8 * (band (F_X11_allCellars 201 μ) (bxor s (-1)))) + 7))) < low) → V_X11_two R 35 [(0, kR 201), (2, kI k), (3, kI s), (4, kI ((μ 208 ((8 * s) + 7)) + (μ 208 ((8 * (band (F_X11_allCellars 201 μ) (bxor s (-1)))) + 7)))), (5, kI (s + 1))] μ) ∧ (¬ (((μ 208 ((8 * s) + 7)) + (μ 208 ((8 * (band (F_X11_allCellars 201 μ) (bxor s (-1)))) + 7))) < low) → V_X11_two R 35 [(0, kR 201), (2, kI k), (3, kI best), (4, kI low), (5, kI (s + 1))] μ)))
  exact ⟨c_201, H.1, ⟨⟨H.2.1, H.2.2.1⟩, fun hc16 => ⟨(H.2.2.2.1 hc16).1, fun hc13 => ⟨⟨((H.2.2.2.1 hc16).2.1 hc13).1, by unfold r32; omega⟩, fun hc12 => ⟨c_201, (((H.2.2.2.1 hc16).2.1 hc13).2.1 hc12).1, ⟨c_201, (((H.2.2.2.1 hc16).2.1 hc13).2.1 hc12).2.1, (((H.2.2.2.1 hc16).2.1 hc13).2.1 hc12).2.2⟩⟩, fun hc12 => ⟨c_201, (((H.2.2.2.1 hc16).2.1 hc13).2.2 hc12).1, (((H.2.2.2.1 hc16).2.1 hc13).2.2 hc12).2⟩⟩, fun hc13 => ((H.2.2.2.1 hc16).2.2 hc13)⟩, fun hc16 => ⟨c_201, ⟨isArr.in a_208 (H.2.2.2.2 hc16).1.1 (H.2.2.2.2 hc16).1.2, ⟨c_201, ⟨c_201, (H.2.2.2.2 hc16).2.1, ⟨isArr.in a_208 (H.2.2.2.2 hc16).2.2.1.1 (H.2.2.2.2 hc16).2.2.1.2, ⟨(H.2.2.2.2 hc16).2.2.2.1, fun hc15 => ((H.2.2.2.2 hc16).2.2.2.2.1 hc15), fun hc15 => ⟨⟨((H.2.2.2.2 hc16).2.2.2.2.2 hc15).1, ((H.2.2.2.2 hc16).2.2.2.2.2 hc15).2.1⟩, fun hc14 => (((H.2.2.2.2 hc16).2.2.2.2.2 hc15).2.2.1 hc14), fun hc14 => (((H.2.2.2.2 hc16).2.2.2.2.2 hc15).2.2.2 hc14)⟩⟩⟩⟩⟩⟩⟩⟩⟩
theorem body_X11_two {o n k : Int} {μ : Mem} {R : Mem → Option AV → Prop} (h : P_X11_two o n k μ) (hR : ∀ (μ' : Mem) (r : Int), Q_X11_two o n k μ μ' r → R μ' (some (kI r))) : V_X11_two R 0 [(0, kR o), (1, kI n), (2, kI k)] μ := by
  obtain ⟨rfl, hs, r_n, r_k⟩ := h
  refine vc_X11_two_0 ⟨⟨rfl, hs, r_n⟩, fun m rv q => ?_⟩
  obtain ⟨q1, q3, q4⟩ := q
  have ask : AskM μ m := fun z hz => q1 z (by omega) (by omega) (by omega)
  by_cases c : 0 ≤ n ∧ n < μ 202 0
  · obtain ⟨rfl, hl, hv⟩ := q4 c
    have hb := hl.1
    have ok := hb.v
    have hp := hb.p
    have hpe := hb.2.1
    have fin : ∀ (m' : Mem) (x : Int), AskM m m' → x = (twoT k) (vm m) → R m' (some (kI x)) := fun m' x ha hx => hR m' x ⟨ask.trans ha, by rw [hx, onM_yes c, ← hv]⟩
    have a0 := AskM_0 m
    refine ⟨rr (by omega), fun q => absurd q (by omega), fun _ => ?_⟩
    have ir := isIn_r (x := k) (lo := 0) (hi := 2) (μ := m)
    unfold twoT at fin
    refine ⟨⟨r_k, rr (by omega), rr (by omega)⟩, rr (by omega), fun d => ⟨⟨rfl, hl⟩, fun m4 q5 => vc_X11_two_23 ?_⟩, fun d => fin m _ a0 (if_pos (by have : ¬ (0 ≤ k ∧ k ≤ 2) := fun q => d (isIn_1.mpr q); omega)).symm⟩
    have dk := isIn_1.mp d
    obtain ⟨wk, ev, ea, eW, er, ak⟩ := wk_of hl q5
    refine ⟨⟨rfl, wk⟩, fun m8 q8 => vc_X11_two_27 ?_⟩
    obtain ⟨wk8, ls8, ev8, ea8, eW8, er8, ak8⟩ := ls_of wk q8
    have eq8 : ∀ s : Int, 0 ≤ s → s < 256 → subS s (awM m) → rcV (Wm m8) (rm m8) (vm m8 0 0) 0 s = rcV (wayV (vm m)) (sumV (vm m)) (vm m 0 0) 0 s := fun s s0 s1 hs => by
      rw [ev8, ev, eW8, er8]
      exact (rcV_sub (g := awM m) (by omega) eW er (Int.le_refl 0) (by omega) s0 s1 hs).1
    rw [if_neg (by omega)] at fin
    have fin8 : ∀ x : Int, x = (if k = 0 then (twoV (vm m) (awayV (vm m) + 1)).1 else if k = 1 then (twoV (vm m) (awayV (vm m) + 1)).2 else bxor (awayV (vm m)) (twoV (vm m) (awayV (vm m) + 1)).2) → R m8 (some (kI x)) := fun x hx => fin m8 x (ak.trans ak8) hx
    have f := wk8.f
    rw [ea8, ea] at f
    have aeq : awM m = awayV (vm m) := rfl
    have p2 := pw2_7 f.2.1.1 f.2.1.2
    have p1 := pw2_le f.2.1.1 (by omega)
    have eall := ex_all f.2.2.1.1 f.2.2.1.2
    have eC := allC wk8
    rw [ea8, ea] at eC
    obtain ⟨N2, hN⟩ : ∃ N2 : Int, N2 = ((2 ^ (popc (awM m)).toNat : Nat) : Int) := ⟨_, rfl⟩
    rw [← hN] at p1 p2 eC eall
    have ls : ∀ t : Int, 0 ≤ t → t < N2 → m8 208 (8 * t + 7) = rcV (wayV (vm m)) (sumV (vm m)) (vm m 0 0) 0 (exS (awM m) t) := fun t t0 t1 => by
      have := ls8 t 7 t0 (by rw [ea8, ea]; omega) (Or.inl rfl)
      rw [ea8, ea] at this
      rw [this]
      exact eq8 _ ex_bd.1 ex_bd.2 ex_sub
    have rcb : ∀ s : Int, 0 ≤ s → s < 256 → 0 ≤ rcV (wayV (vm m)) (sumV (vm m)) (vm m 0 0) 0 s ∧ rcV (wayV (vm m)) (sumV (vm m)) (vm m 0 0) 0 s ≤ 307359360 := fun s s0 s1 => by
      have := rcV_bd (W := wayV (vm m)) (r := sumV (vm m)) (n := vm m 0 0) (B := 274428) (by omega) (by omega) (by omega) (fun a b a0 a1 b0 b1 => way_ok hb.2.2 a0 a1 b0 b1) (fun s _ _ => by have := sumV_bd (s := s) ok; omega) s.toNat 0 s s0 s1 (by omega) ⟨Int.le_refl 0, by omega⟩
      have pb := popc_bd (s := s)
      have : popc s * (140 * 274428) ≤ 8 * (140 * 274428) := Int.mul_le_mul_of_nonneg_right pb.2 (by omega)
      omega
    obtain ⟨f2, hf2⟩ : ∃ f2 : Int → Int, f2 = fun s => rcV (wayV (vm m)) (sumV (vm m)) (vm m 0 0) 0 s + rcV (wayV (vm m)) (sumV (vm m)) (vm m 0 0) 0 (difS (awayV (vm m)) s) := ⟨_, rfl⟩
    have ef2 : ∀ s, f2 s = rcV (wayV (vm m)) (sumV (vm m)) (vm m 0 0) 0 s + rcV (wayV (vm m)) (sumV (vm m)) (vm m 0 0) 0 (difS (awM m) s) := fun s => by rw [hf2]; rfl
    have etwo : twoV (vm m) = mnF (fun s => subB s (awayV (vm m))) f2 := by rw [hf2]; rfl
    have dfb : ∀ t : Int, 0 ≤ t → t < N2 → (0 ≤ difS (N2 - 1) t ∧ difS (N2 - 1) t < N2) ∧ exS (awM m) (difS (N2 - 1) t) = difS (awM m) (exS (awM m) t) ∧ band (N2 - 1) (bxor t (-1)) = difS (N2 - 1) t := fun t t0 t1 => by
      have d := difS_bd (g := N2 - 1) (s := t) (by omega)
      have e := ex_dif (s := awM m) (t := t) f.2.2.1.1 f.2.2.1.2
      rw [← hN] at e
      exact ⟨by omega, e, b_difS (by omega) (by omega) t0 (by omega)⟩
    have gv : ∀ t : Int, 0 ≤ t → t < N2 → m8 208 (8 * t + 7) + m8 208 (8 * difS (N2 - 1) t + 7) = f2 (exS (awM m) t) := fun t t0 t1 => by
      have d := dfb t t0 t1
      rw [ls t t0 t1, ls _ d.1.1 d.1.2, d.2.1, ef2]
    have f2b : ∀ t : Int, 0 ≤ f2 (exS (awM m) t) ∧ f2 (exS (awM m) t) ≤ 614718720 := fun t => by
      have eb := ex_bd (s := awM m) (t := t)
      have d := difS_bd (g := awM m) (s := exS (awM m) t) f.2.2.1.1
      have r1 := rcb (exS (awM m) t) eb.1 eb.2
      have r2 := rcb (difS (awM m) (exS (awM m) t)) d.1 (by omega)
      rw [ef2]
      omega
    refine up_ind (P := fun t => ∀ best low : Int, (best, low) = ((mnF (fun _ => true) (fun t => f2 (exS (awM m) t)) t).2, (mnF (fun _ => true) (fun t => f2 (exS (awM m) t)) t).1) → V_X11_two R 35 [(0, kR 201), (2, kI k), (3, kI best), (4, kI low), (5, kI t)] m8) (lo := 0) (hi := N2) ?_ ?_ 0 (by omega) (by omega) (-1) 0 rfl
    · intro t t0 t1 ih best low hbl
      have d := dfb t t0 t1
      have ms := mnF_s (q := fun _ => true) (f := fun t => f2 (exS (awM m) t)) t0
      have mc := mnF_cases (q := fun _ => true) (f := fun t => f2 (exS (awM m) t)) (n := t) t0
      rw [ms] at ih
      generalize mnF (fun _ => true) (fun t => f2 (exS (awM m) t)) t = M at ih mc hbl
      have b1 : best = M.2 := congrArg Prod.fst hbl
      have b2 : low = M.1 := congrArg Prod.snd hbl
      have mb : -1 ≤ M.2 ∧ M.2 < 256 ∧ 0 ≤ M.1 ∧ M.1 ≤ 614718720 := by
        rcases mc with ⟨e, _⟩ | ⟨j, hj, e, _⟩
        · rw [e]; show -1 ≤ (-1 : Int) ∧ (-1 : Int) < 256 ∧ 0 ≤ (0 : Int) ∧ (0 : Int) ≤ 614718720; omega
        · have := f2b j
          rw [e]; show -1 ≤ j ∧ j < 256 ∧ 0 ≤ f2 (exS (awM m) j) ∧ f2 (exS (awM m) j) ≤ 614718720; omega
      have f2t := f2b t
      refine vc_X11_two_35 ?_
      rw [eC, d.2.2, gv t t0 t1, b1, b2]
      refine ⟨rfl, rr (by omega), rr (by omega), fun c => absurd c (by omega), fun _ => ⟨by omega, rfl, by omega, rr (by omega), fun c => ih _ _ ?_, fun c => ⟨rr (by omega), rr (by omega), fun c2 => ih _ _ ?_, fun c2 => ih _ _ ?_⟩⟩⟩
      · rw [if_pos ⟨rfl, Or.inl c⟩]
      · rw [if_pos ⟨rfl, Or.inr c2⟩]
      · rw [if_neg (fun q => by rcases q.2 with q | q <;> omega)]
    · intro best low hbl
      rcases mnF_cases (q := fun _ => true) (f := fun t => f2 (exS (awM m) t)) (n := N2) (by omega) with ⟨_, e⟩ | ⟨j, hj, e, _, hmin, hfst⟩
      · exact absurd (e 0 (by omega) (by omega)) (by decide)
      rw [e] at hbl
      have b1 : best = j := congrArg Prod.fst hbl
      have b2 : low = f2 (exS (awM m) j) := congrArg Prod.snd hbl
      have d := dfb j hj.1 hj.2
      have eb := ex_bd (s := awM m) (t := j)
      have et : twoV (vm m) (awayV (vm m) + 1) = (f2 (exS (awM m) j), exS (awM m) j) := by
        rw [etwo]
        have hle := sub_le eb.1 eb.2 f.2.2.1.1 f.2.2.1.2 (ex_sub (s := awM m) (t := j))
        have back : ∀ b : Int, 0 ≤ b → b < awM m + 1 → subB b (awM m) = true → ∃ t, (0 ≤ t ∧ t < N2) ∧ exS (awM m) t = b := fun b b0 b1 hbs => by
          have := (subB_iff b0 (by omega) f.2.2.1.1 f.2.2.1.2).mp hbs
          have cb := co_bd (s := awM m) (b := b)
          exact ⟨coS (awM m) b, by omega, co_ex b0 (by omega) this⟩
        refine mnF_at (k := exS (awM m) j) (by rw [← aeq]; omega) ((subB_iff eb.1 eb.2 f.2.2.1.1 f.2.2.1.2).mpr ex_sub) (fun b b0 b1 hbs => ?_) (fun b b0 b1 hbs => ?_)
        · obtain ⟨t, ht, rfl⟩ := back b b0 b1 hbs
          exact hmin t ht.1 ht.2 rfl
        · obtain ⟨t, ht, rfl⟩ := back b b0 (by omega) hbs
          refine hfst t ht.1 (Classical.byContradiction fun q => ?_) rfl
          by_cases q2 : t = j
          · rw [q2] at b1; omega
          · have := ex_mono (s := awM m) (t := j) (t' := t) hj.1 (by omega) (by omega)
            omega
      rw [et] at fin8
      have hP : ∀ t : Int, 0 ≤ t → t < N2 → P_X11_placesOf 201 t m8 ∧ F_X11_placesOf 201 t m8 = exS (awM m) t := fun t t0 t1 => by
        unfold F_X11_placesOf
        rw [ea8, ea]
        exact ⟨⟨rfl, wk8.1, wk8.2.1, t0, by omega⟩, rfl⟩
      have f2t := f2b j
      refine vc_X11_two_35 ?_
      rw [eC, b1, b2, d.2.2, (hP j hj.1 hj.2).2, (hP _ d.1.1 d.1.2).2]
      refine ⟨rfl, rr (by omega), rr (by omega), fun _ => ⟨r_k, fun c => ⟨r_k, fun c2 => ⟨rfl, (hP _ d.1.1 d.1.2).1, fin8 _ ?_⟩, fun c2 => ⟨(hP j hj.1 hj.2).1, fin8 _ ?_⟩⟩, fun c => fin8 _ ?_⟩, fun c => absurd (by omega) c⟩
      · rw [if_neg c, if_neg c2, d.2.1]
        exact (b_xdif f.2.2.1.1 f.2.2.1.2 eb.1 eb.2 ex_sub).symm
      · rw [if_neg c, if_pos (Classical.byContradiction c2)]
      · rw [if_pos (Classical.byContradiction c)]
  · have e := q3 c
    subst e
    exact ⟨rr (by omega), fun _ => hR m _ ⟨ask, (onM_no c).symm⟩, fun q => absurd rfl q⟩
theorem ct_X11_two : Ct mX11_two 3 66 0 0 (nrmS S_X11_two) := by
  refine ct_vm (own := RX11) (by decide +kernel) rfl ?_ ?_
  · intro as μ Q hS
    unfold S_X11_two at hS
    split at hS
    · exact Nat.le_of_ble_eq_true rfl
    · exact hS.elim
  · intro as μ R hS
    unfold S_X11_two at hS
    split at hS
    · exact body_X11_two hS.1 hS.2
    · exact hS.elim
def P_X11_barrels (o n w k : Int) (μ : Mem) : Prop := o = 201 ∧ SOk (stM μ) ∧ r32 n ∧ r32 w ∧ r32 k
def Q_X11_barrels (_ n w k : Int) (μ μ' : Mem) (r : Int) : Prop := AskM μ μ' ∧ r = onT (stM μ).1 n (-1) (barrelsT w k)
def S_X11_barrels : S0t := fun as μ Q => match as with
  | [(2, x0), (0, x1), (0, x2), (0, x3)] => P_X11_barrels x0 x1 x2 x3 μ ∧ ∀ (μ' : Mem) (r : Int), Q_X11_barrels x0 x1 x2 x3 μ μ' r → Q μ' (some (kI r))
  | _ => False
theorem mono_X11_barrels : Mono S_X11_barrels := by
  intro as μ Q Q' h hS
  unfold S_X11_barrels at hS ⊢
  split at hS
  · exact ⟨hS.1, fun μ' r q => h _ _ (hS.2 _ _ q)⟩
  · exact hS.elim
def iX11_barrels : Inf := (kX11_barrels, fTX11, pTX11, cTX11, lTX11, sTX11, [(234, 0, 1, 11, S_X11_looks), (209, 0, 1, 11, S_X11_of), (259, 0, 0, 11, S_X11_walks), (265, 0, 1, 11, S_X11_placesOf), (268, 0, 1, 11, S_X11_couples), (262, 0, 1, 11, S_X11_answers)])
theorem ok_X11_barrels : infOK iX11_barrels mX11_barrels RX11 3 68 := ⟨kkX11_barrels, fTX11_ok, pTX11_ok _, cTX11_ok, lTX11_ok, sTX11_ok, c_cons ⟨mX11_looks, 2, 45, ct_X11_looks, mmX11_looks, vvX11_looks, lkX11_234, ⟨by decide, by decide⟩, ⟨_, _, rfl⟩, by decide, mono_X11_looks⟩ (c_cons ⟨mX11_of, 0, 0, ct_X11_of, mmX11_of, vvX11_of, lkX11_209, ⟨by decide, by decide⟩, ⟨_, _, rfl⟩, by decide, mono_X11_of⟩ (c_cons ⟨mX11_walks, 1, 22, ct_X11_walks, mmX11_walks, vvX11_walks, lkX11_259, ⟨by decide, by decide⟩, ⟨_, _, rfl⟩, by decide, mono_X11_walks⟩ (c_cons ⟨mX11_placesOf, 0, 0, ct_X11_placesOf, mmX11_placesOf, vvX11_placesOf, lkX11_265, ⟨by decide, by decide⟩, ⟨_, _, rfl⟩, by decide, mono_X11_placesOf⟩ (c_cons ⟨mX11_couples, 1, 21, ct_X11_couples, mmX11_couples, vvX11_couples, lkX11_268, ⟨by decide, by decide⟩, ⟨_, _, rfl⟩, by decide, mono_X11_couples⟩ (c_cons ⟨mX11_answers, 2, 47, ct_X11_answers, mmX11_answers, vvX11_answers, lkX11_262, ⟨by decide, by decide⟩, ⟨_, _, rfl⟩, by decide, mono_X11_answers⟩ (c_nil))))))⟩
theorem mt_X11_barrels : mtOK [] RX11 3 68 := mt_nil
abbrev V_X11_barrels (R : Mem → Option AV → Prop) (pc : Nat) (lc : List (Nat × AV)) (μ : Mem) : Prop := VM mX11_barrels RX11 3 68 R pc lc [] μ
set_option maxRecDepth 20000 in
theorem vc_X11_barrels_0 {R : Mem → Option AV → Prop} {n w k : Int} {μ : Mem} (H : P_X11_looks 201 n μ ∧ (∀ (μ1 : Mem) (rv2 : Int), Q_X11_looks 201 n μ μ1 rv2 → r32 rv2 ∧ ((rv2 = 0) → R μ1 (some (kI (-1)))) ∧ (¬ (rv2 = 0) → P_X11_of 201 10 μ1 ∧ r32 (F_X11_of 201 10 μ1) ∧ (((F_X11_of 201 10 μ1) ≤ 0) → r32 ((μ1 201 14) + 0) ∧ (((2 : Int) ≤ ((μ1 201 14) + 0)) → V_X11_barrels R 46 [(0, kR 201), (2, kI w), (3, kI k), (4, kI ((bshl 1 (μ1 201 13)) - 1)), (5, kI 0)] μ1) ∧ (¬ ((2 : Int) ≤ ((μ1 201 14) + 0)) → R μ1 (some (kI (-1))))) ∧ (¬ ((F_X11_of 201 10 μ1) ≤ 0) → r32 ((μ1 201 14) + 1) ∧ (((2 : Int) ≤ ((μ1 201 14) + 1)) → V_X11_barrels R 46 [(0, kR 201), (2, kI w), (3, kI k), (4, kI ((bshl 1 (μ1 201 13)) - 1)), (5, kI 0)] μ1) ∧ (¬ ((2 : Int) ≤ ((μ1 201 14) + 1)) → R μ1 (some (kI (-1)))))))) : V_X11_barrels R 0 [(0, kR 201), (1, kI n), (2, kI w), (3, kI k)] μ := by
  refine vm_step2 mt_X11_barrels ok_X11_barrels [(46, [0, 2, 3, 4, 5]), (103, [0, 2, 3, 4, 5]), (113, [0, 3])] 1000 ?_
  show isC 201 11 ∧ P_X11_looks 201 n μ ∧ (∀ (μ1 : Mem) (rv2 : Int), Q_X11_looks 201 n μ μ1 rv2 → r32 rv2 ∧ ((rv2 = 0) → R μ1 (some (kI (-1)))) ∧ (¬ (rv2 = 0) → isC 201 11 ∧ isC 201 11 ∧ P_X11_of 201 10 μ1 ∧ r32 (F_X11_of 201 10 μ1) ∧ (((F_X11_of 201 10 μ1) ≤ 0) → (r32 ((μ1 201 14) + 0) ∧ r32 (2 : Int)) ∧ (((2 : Int) ≤ ((μ1 201 14) + 0)) → isC 201 11 ∧ V_X11_barrels R 46 [(0, kR 201), (2, kI w), (3, kI k), (4, kI ((bshl 1 (μ1 201 13)) - 1)), (5, kI 0)] μ1) ∧ (¬ ((2 : Int) ≤ ((μ1 201 14) + 0)) → R μ1 (some (kI (-1))))) ∧ (¬ ((F_X11_of 201 10 μ1) ≤ 0) → (r32 ((μ1 201 14) + 1) ∧ r32 (2 : Int)) ∧ (((2 : Int) ≤ ((μ1 201 14) + 1)) → isC 201 11 ∧ V_X11_barrels R 46 [(0, kR 201), (2, kI w), (3, kI k), (4, kI ((bshl 1 (μ1 201 13)) - 1)), (5, kI 0)] μ1) ∧ (¬ ((2 : Int) ≤ ((μ1 201 14) + 1)) → R μ1 (some (kI (-1)))))))
  exact ⟨c_201, H.1, fun μ1 rv2 hq3 => ⟨(H.2 μ1 rv2 hq3).1, fun hc7 => ((H.2 μ1 rv2 hq3).2.1 hc7), fun hc7 => ⟨c_201, ⟨c_201, ((H.2 μ1 rv2 hq3).2.2 hc7).1, ⟨((H.2 μ1 rv2 hq3).2.2 hc7).2.1, fun hc6 => ⟨⟨(((H.2 μ1 rv2 hq3).2.2 hc7).2.2.1 hc6).1, by unfold r32; omega⟩, fun hc4 => ⟨c_201, ((((H.2 μ1 rv2 hq3).2.2 hc7).2.2.1 hc6).2.1 hc4)⟩, fun hc4 => ((((H.2 μ1 rv2 hq3).2.2 hc7).2.2.1 hc6).2.2 hc4)⟩, fun hc6 => ⟨⟨(((H.2 μ1 rv2 hq3).2.2 hc7).2.2.2 hc6).1, by unfold r32; omega⟩, fun hc5 => ⟨c_201, ((((H.2 μ1 rv2 hq3).2.2 hc7).2.2.2 hc6).2.1 hc5)⟩, fun hc5 => ((((H.2 μ1 rv2 hq3).2.2 hc7).2.2.2 hc6).2.2 hc5)⟩⟩⟩⟩⟩⟩
set_option maxRecDepth 20000 in
theorem vc_X11_barrels_46 {R : Mem → Option AV → Prop} {w k ev s : Int} {μ : Mem} (H : r32 s ∧ r32 (bshl 1 (μ 201 14)) ∧ (((bshl 1 (μ 201 14)) ≤ s) → P_X11_walks 201 μ ∧ (∀ (μ8 : Mem), Q_X11_walks 201 μ μ8 → V_X11_barrels R 113 [(0, kR 201), (3, kI k)] μ8)) ∧ (¬ ((bshl 1 (μ 201 14)) ≤ s) → P_X11_placesOf 201 s μ ∧ r32 w ∧ ((w = 0) → P_X11_couples 201 (F_X11_placesOf 201 s μ) μ ∧ (0 ≤ s ∧ s < 128) ∧ V_X11_barrels R 103 [(0, kR 201), (2, kI w), (3, kI k), (4, kI ev), (5, kI s)] (updm μ 207 s (F_X11_couples 201 (F_X11_placesOf 201 s μ) μ))) ∧ (¬ (w = 0) → P_X11_couples 201 ev μ ∧ P_X11_couples 201 (band ev (bxor (F_X11_placesOf 201 s μ) (-1))) μ ∧ (0 ≤ s ∧ s < 128) ∧ V_X11_barrels R 103 [(0, kR 201), (2, kI w), (3, kI k), (4, kI ev), (5, kI s)] (updm μ 207 s ((F_X11_couples 201 ev μ) - (F_X11_couples 201 (band ev (bxor (F_X11_placesOf 201 s μ) (-1))) μ)))))) : V_X11_barrels R 46 [(0, kR 201), (2, kI w), (3, kI k), (4, kI ev), (5, kI s)] μ := by
  refine vm_step2 mt_X11_barrels ok_X11_barrels [(46, [0, 2, 3, 4, 5]), (103, [0, 2, 3, 4, 5]), (113, [0, 3])] 1000 ?_
  show isC 201 11 ∧ (r32 s ∧ r32 (bshl 1 (μ 201 14))) ∧ (((bshl 1 (μ 201 14)) ≤ s) → isC 201 11 ∧ P_X11_walks 201 μ ∧ (∀ (μ8 : Mem), Q_X11_walks 201 μ μ8 → V_X11_barrels R 113 [(0, kR 201), (3, kI k)] μ8)) ∧ (¬ ((bshl 1 (μ 201 14)) ≤ s) → isC 201 11 ∧ P_X11_placesOf 201 s μ ∧ isC 201 11 ∧ r32 w ∧ ((w = 0) → isC 201 11 ∧ P_X11_couples 201 (F_X11_placesOf 201 s μ) μ ∧ inA 207 0 s ∧ V_X11_barrels R 103 [(0, kR 201), (2, kI w), (3, kI k), (4, kI ev), (5, kI s)] (updm μ 207 s (F_X11_couples 201 (F_X11_placesOf 201 s μ) μ))) ∧ (¬ (w = 0) → isC 201 11 ∧ P_X11_couples 201 ev μ ∧ isC 201 11 ∧ P_X11_couples 201 (band ev (bxor (F_X11_placesOf 201 s μ) (-1))) μ ∧ inA 207 0 s ∧ V_X11_barrels R 103 [(0, kR 201), (2, kI w), (3, kI k), (4, kI ev), (5, kI s)] (updm μ 207 s ((F_X11_couples 201 ev μ) - (F_X11_couples 201 (band ev (bxor (F_X11_placesOf 201 s μ) (-1))) μ)))))
  exact ⟨c_201, ⟨⟨H.1, H.2.1⟩, fun hc12 => ⟨c_201, (H.2.2.1 hc12).1, fun μ8 hq10 => ((H.2.2.1 hc12).2 μ8 hq10)⟩, fun hc12 => ⟨c_201, (H.2.2.2 hc12).1, ⟨c_201, ⟨(H.2.2.2 hc12).2.1, fun hc11 => ⟨c_201, ((H.2.2.2 hc12).2.2.1 hc11).1, ⟨isArr.in a_207 ((H.2.2.2 hc12).2.2.1 hc11).2.1.1 ((H.2.2.2 hc12).2.2.1 hc11).2.1.2, ((H.2.2.2 hc12).2.2.1 hc11).2.2⟩⟩, fun hc11 => ⟨c_201, ((H.2.2.2 hc12).2.2.2 hc11).1, ⟨c_201, ((H.2.2.2 hc12).2.2.2 hc11).2.1, ⟨isArr.in a_207 ((H.2.2.2 hc12).2.2.2 hc11).2.2.1.1 ((H.2.2.2 hc12).2.2.2 hc11).2.2.1.2, ((H.2.2.2 hc12).2.2.2 hc11).2.2.2⟩⟩⟩⟩⟩⟩⟩⟩
set_option maxRecDepth 20000 in
theorem vc_X11_barrels_103 {R : Mem → Option AV → Prop} {w k ev s : Int} {μ : Mem} (H : V_X11_barrels R 46 [(0, kR 201), (2, kI w), (3, kI k), (4, kI ev), (5, kI (s + 1))] μ) : V_X11_barrels R 103 [(0, kR 201), (2, kI w), (3, kI k), (4, kI ev), (5, kI s)] μ := by
  refine vm_step2 mt_X11_barrels ok_X11_barrels [(46, [0, 2, 3, 4, 5]), (103, [0, 2, 3, 4, 5]), (113, [0, 3])] 1000 ?_
  show V_X11_barrels R 46 [(0, kR 201), (2, kI w), (3, kI k), (4, kI ev), (5, kI (s + 1))] μ
  exact H
set_option maxRecDepth 20000 in
theorem vc_X11_barrels_113 {R : Mem → Option AV → Prop} {k : Int} {μ : Mem} (H : P_X11_answers 201 k μ ∧ R μ (some (kI (F_X11_answers 201 k μ)))) : V_X11_barrels R 113 [(0, kR 201), (3, kI k)] μ := by
  refine vm_step2 mt_X11_barrels ok_X11_barrels [(46, [0, 2, 3, 4, 5]), (103, [0, 2, 3, 4, 5]), (113, [0, 3])] 1000 ?_
  show isC 201 11 ∧ P_X11_answers 201 k μ ∧ R μ (some (kI (F_X11_answers 201 k μ)))
  exact ⟨c_201, H.1, H.2⟩
theorem coup_same {v : TV} {s s' : Int} (h : ∀ a : Int, 0 ≤ a → a < 8 → v 4 a ≠ 0 → hasB s a = hasB s' a) : coupV v s = coupV v s' := by
  unfold coupV
  refine sm_congr fun a a0 a1 => sm_congr fun b b0 b1 => ?_
  by_cases ca : v 4 a = 0
  · rw [ca, Int.zero_mul]
    split <;> split <;> rfl
  · by_cases cb : v 4 b = 0
    · rw [cb, Int.mul_zero]
      split <;> split <;> rfl
    · rw [h a a0 a1 ca, h b b0 (by omega) cb]
theorem cel_away {v : TV} (ok : TVok v) : popc (cellV v) = popc (awayV v) + (if 0 < v 4 0 then 1 else 0) := by
  have hp := ok.1
  have h0 := (ok.2.2.2.1 0 (by omega) (by omega)).1
  refine sm_upd (f := fun a => if hasB (awayV v) a then 1 else 0) (g := fun a => if hasB (cellV v) a then 1 else 0) (b := 0) (by omega) (by omega) (fun i i0 i1 q => ?_) ?_
  · show (if hasB (cellV v) i then (1 : Int) else 0) = if hasB (awayV v) i then 1 else 0
    rw [cell_has ok i0, away_has ok i0, decide_eq_true (show 0 < i by omega), Bool.true_and]
  · show (if hasB (cellV v) 0 then (1 : Int) else 0) = (if hasB (awayV v) 0 then 1 else 0) + _
    rw [cell_has ok (Int.le_refl 0), away_has ok (Int.le_refl 0), decide_eq_true (show 0 < v 0 0 by omega)]
    by_cases c : 0 < v 4 0
    · rw [decide_eq_true c, if_pos c]; rfl
    · rw [decide_eq_false c, if_neg c]; rfl
theorem body_X11_barrels {o n w k : Int} {μ : Mem} {R : Mem → Option AV → Prop} (h : P_X11_barrels o n w k μ) (hR : ∀ (μ' : Mem) (r : Int), Q_X11_barrels o n w k μ μ' r → R μ' (some (kI r))) : V_X11_barrels R 0 [(0, kR o), (1, kI n), (2, kI w), (3, kI k)] μ := by
  obtain ⟨rfl, hs, r_n, r_w, r_k⟩ := h
  refine vc_X11_barrels_0 ⟨⟨rfl, hs, r_n⟩, fun m rv q => ?_⟩
  obtain ⟨q1, q3, q4⟩ := q
  have ask : AskM μ m := fun z hz => q1 z (by omega) (by omega) (by omega)
  by_cases c : 0 ≤ n ∧ n < μ 202 0
  · obtain ⟨rfl, hl, hv⟩ := q4 c
    have hb := hl.1
    have ok := hb.v
    have hp := hb.p
    have hpe := hb.2.1
    have fin : ∀ (m' : Mem) (x : Int), AskM m m' → x = (barrelsT w k) (vm m) → R m' (some (kI x)) := fun m' x ha hx => hR m' x ⟨ask.trans ha, by rw [hx, onM_yes c, ← hv]⟩
    have a0 := AskM_0 m
    refine ⟨rr (by omega), fun q => absurd q (by omega), fun _ => ?_⟩
    have ir := ok.2.2.2.1 0 (by omega) (by omega)
    have e14 : m 201 14 = popc (awM m) := hl.2.2.1
    have e10 : F_X11_of 201 10 m = vm m 4 0 := of_4 (a := 0) (by omega) (by omega)
    have pb := popc_bd (s := awM m)
    have p7 : popc (awM m) ≤ 7 := away_7 ok
    have ecel : popc (cellV (vm m)) = popc (awM m) + (if 0 < vm m 4 0 then 1 else 0) := cel_away ok
    unfold barrelsT at fin
    have no : popc (cellV (vm m)) < 2 → R m (some (kI (-1))) := fun q => fin m _ a0 (if_pos (Or.inr q)).symm
    have go : 2 ≤ popc (cellV (vm m)) → V_X11_barrels R 46 [(0, kR 201), (2, kI w), (3, kI k), (4, kI ((bshl 1 (m 201 13)) - 1)), (5, kI 0)] m := by
      intro q2
      have fin2 : ∀ (m' : Mem) (x : Int), AskM m m' → x = (if k < 0 then -1 else if k = 0 then rcV (wayV (vm m)) (barV (vm m) w) (vm m 0 0) 0 (awM m) else stopV (wayV (vm m)) (barV (vm m) w) (vm m 0 0) (awM m) (k - 1)) → R m' (some (kI x)) := fun m' x ha hx => fin m' x ha (by
        rw [hx]
        by_cases c : k < 0
        · rw [if_pos c, if_pos (Or.inl c)]
        · rw [if_neg c, if_neg (show ¬ (k < 0 ∨ popc (cellV (vm m)) < 2) from by omega)]; rfl)
      have p2 := pw2_7 pb.1 p7
      have p1 := pw2_le pb.1 pb.2
      have es := b_shl (k := popc (awM m)) (by omega) (by omega)
      have ep := b_shl (k := m 201 13) (by omega) (by omega)
      have pp := pw2_le (c := m 201 13) (by omega) (by omega)
      rw [ep]
      refine up_ind (P := fun t => ∀ m1 : Mem, (∀ z : Int, z ≠ 207 → m1 z = m z) → (∀ t' : Int, 0 ≤ t' → t' < t → m1 207 t' = barV (vm m) w (exS (awM m) t')) → V_X11_barrels R 46 [(0, kR 201), (2, kI w), (3, kI k), (4, kI (((2 ^ (m 201 13).toNat : Nat) : Int) - 1)), (5, kI t)] m1) (lo := 0) (hi := ((2 ^ (popc (awM m)).toNat : Nat) : Int)) ?_ ?_ 0 (by omega) (by omega) m (fun _ _ => rfl) (fun t' h0 h1 => absurd h1 (by omega))
      · intro t t0 t1 ih m1 hz ht
        obtain ⟨mb, ev⟩ := MB_frame hb (hz 202 (by omega)) (by rw [hz 201 (by omega)]) (by rw [hz 201 (by omega)])
        have ea : awM m1 = awM m := by unfold awM; rw [ev]
        have cr : CR m1 (awM m1) := by
          have := hl.2.2
          unfold CR at *
          rw [ea, hz 201 (by omega), hz 205 (by omega)]
          exact this
        have m14 : m1 201 14 = popc (awM m) := by rw [hz 201 (by omega), e14]
        have eP : F_X11_placesOf 201 t m1 = exS (awM m) t := by unfold F_X11_placesOf; rw [ea]
        have eb := ex_bd (s := awM m) (t := t)
        have ed : band (((2 ^ (m 201 13).toNat : Nat) : Int) - 1) (bxor (exS (awM m) t) (-1)) = difS (((2 ^ (m 201 13).toNat : Nat) : Int) - 1) (exS (awM m) t) := b_difS (by omega) (by omega) eb.1 eb.2
        have db := difS_bd (g := ((2 ^ (m 201 13).toNat : Nat) : Int) - 1) (s := exS (awM m) t) (by omega)
        have nx : ∀ x : Int, x = barV (vm m) w (exS (awM m) t) → V_X11_barrels R 103 [(0, kR 201), (2, kI w), (3, kI k), (4, kI (((2 ^ (m 201 13).toNat : Nat) : Int) - 1)), (5, kI t)] (updm m1 207 t x) := fun x hx => vc_X11_barrels_103 (ih _ (fun z hz' => by rw [ru_ne hz', hz z hz']) (fun t' h0 h1 => by
          rw [ru_eq]
          by_cases q : t' = t
          · rw [q, r1_eq, hx]
          · rw [r1_ne q]; exact ht t' h0 (by omega)))
        refine vc_X11_barrels_46 ?_
        rw [m14, es, eP, ed]
        unfold F_X11_couples
        rw [ev]
        refine ⟨rr (by omega), rr (by omega), fun c => absurd c (by omega), fun _ => ⟨⟨rfl, mb, cr, t0, by omega⟩, r_w, fun c => ⟨⟨rfl, mb, eb⟩, by omega, nx _ ?_⟩, fun c => ⟨⟨rfl, mb, by omega, by omega⟩, ⟨rfl, mb, by omega, by omega⟩, by omega, nx _ ?_⟩⟩⟩
        · unfold barV
          rw [if_pos c]
        · unfold barV
          rw [if_neg c]
          have h1 : ∀ a : Int, 0 ≤ a → a < 8 → vm m 4 a ≠ 0 → a < vm m 0 0 := fun a a0' a1 h4 => Classical.byContradiction fun q => h4 (ok.2.2.2.2.1 a (by omega) a1)
          have e1 : coupV (vm m) (((2 ^ (m 201 13).toNat : Nat) : Int) - 1) = coupV (vm m) (cellV (vm m)) := coup_same fun a a0' a1 h4 => by
            have h2 := (ok.2.2.2.1 a a0' a1).1
            rw [has_all (by omega) a0', cell_has ok a0', decide_eq_true (h1 a a0' a1 h4), decide_eq_true (show 0 < vm m 4 a by omega), decide_eq_true (show a < m 201 13 by have := h1 a a0' a1 h4; omega)]; rfl
          have e2 : coupV (vm m) (difS (((2 ^ (m 201 13).toNat : Nat) : Int) - 1) (exS (awM m) t)) = coupV (vm m) (difS (cellV (vm m)) (exS (awM m) t)) := coup_same fun a a0' a1 h4 => by
            have h2 := (ok.2.2.2.1 a a0' a1).1
            rw [difS_has, difS_has, has_all (by omega) a0', cell_has ok a0', decide_eq_true (h1 a a0' a1 h4), decide_eq_true (show 0 < vm m 4 a by omega), decide_eq_true (show a < m 201 13 by have := h1 a a0' a1 h4; omega)]; rfl
          rw [e1, e2]
      · intro m1 hz ht
        obtain ⟨mb, ev⟩ := MB_frame hb (hz 202 (by omega)) (by rw [hz 201 (by omega)]) (by rw [hz 201 (by omega)])
        have ea : awM m1 = awM m := by unfold awM; rw [ev]
        have m14 : m1 201 14 = popc (awM m) := by rw [hz 201 (by omega), e14]
        have eW : ∀ a b : Int, 0 ≤ a → a < vm m 0 0 → 0 ≤ b → b < vm m 0 0 → Wm m1 a b = wayV (vm m) a b := fun a b a0 a1 b0 b1 => by
          unfold Wm
          rw [hz 206 (by omega)]
          exact hl.2.1 a b a0 a1 b0 b1
        have wk : WKb m1 := by
          refine ⟨mb, ?_, ?_, ?_⟩
          · have := hl.2.2
            unfold CR at *
            rw [ea, hz 201 (by omega), hz 205 (by omega)]
            exact this
          · intro a b a0 a1 b0 b1
            rw [ev] at a1 b1
            rw [eW a b a0 a1 b0 b1]
            exact way_ok hb.2.2 a0 a1 b0 b1
          · intro t t0 t1
            rw [ea] at t1
            rw [ht t t0 t1]
            exact barV_bd ok w
        refine vc_X11_barrels_46 ?_
        rw [m14, es]
        refine ⟨rr (by omega), rr (by omega), fun _ => ⟨⟨rfl, wk⟩, fun m8 q8 => vc_X11_barrels_113 ?_⟩, fun c => absurd (Int.le_refl _) c⟩
        obtain ⟨wk8, ls8, ev8, ea8, eW8, er8, ak8⟩ := ls_of wk q8
        refine ⟨⟨rfl, wk8, ls8, r_k⟩, fin2 m8 _ (AskM.trans (fun z hz' => hz z (by omega)) ak8) ?_⟩
        rw [ans_eq wk8 (W := wayV (vm m)) (r := barV (vm m) w) (fun a b a0 a1 b0 b1 => by
          rw [ev8, ev] at a1 b1
          rw [eW8]
          exact eW a b a0 a1 b0 b1) (fun s s0 s1 hs => by
          rw [ea8, ea] at hs
          have cb := co_bd (s := awM m) (b := s)
          rw [er8]
          unfold rm
          rw [ea, ht _ cb.1 cb.2, co_ex s0 s1 hs]), ev8, ev, ea8, ea]
    rw [e14, e10]
    refine ⟨⟨rfl, hb.1, by omega, by omega⟩, rr (by omega), fun d => ⟨rr (by omega), fun d2 => go (by rw [if_neg (by omega)] at ecel; omega), fun d2 => no (by rw [if_neg (by omega)] at ecel; omega)⟩, fun d => ⟨rr (by omega), fun d2 => go (by rw [if_pos (by omega)] at ecel; omega), fun d2 => no (by rw [if_pos (by omega)] at ecel; omega)⟩⟩
  · have e := q3 c
    subst e
    exact ⟨rr (by omega), fun _ => hR m _ ⟨ask, (onM_no c).symm⟩, fun q => absurd rfl q⟩
theorem ct_X11_barrels : Ct mX11_barrels 3 68 0 0 (nrmS S_X11_barrels) := by
  refine ct_vm (own := RX11) (by decide +kernel) rfl ?_ ?_
  · intro as μ Q hS
    unfold S_X11_barrels at hS
    split at hS
    · exact Nat.le_of_ble_eq_true rfl
    · exact hS.elim
  · intro as μ R hS
    unfold S_X11_barrels at hS
    split at hS
    · exact body_X11_barrels hS.1 hS.2
    · exact hS.elim
def P_X11_more (o n k w : Int) (μ : Mem) : Prop := o = 201 ∧ SOk (stM μ) ∧ r32 n ∧ r32 k ∧ r32 w
def Q_X11_more (_ n k w : Int) (μ μ' : Mem) (r : Int) : Prop := AskM μ μ' ∧ r = onT (stM μ).1 n (-1) (moreT k w)
def S_X11_more : S0t := fun as μ Q => match as with
  | [(2, x0), (0, x1), (0, x2), (0, x3)] => P_X11_more x0 x1 x2 x3 μ ∧ ∀ (μ' : Mem) (r : Int), Q_X11_more x0 x1 x2 x3 μ μ' r → Q μ' (some (kI r))
  | _ => False
theorem mono_X11_more : Mono S_X11_more := by
  intro as μ Q Q' h hS
  unfold S_X11_more at hS ⊢
  split at hS
  · exact ⟨hS.1, fun μ' r q => h _ _ (hS.2 _ _ q)⟩
  · exact hS.elim
def iX11_more : Inf := (kX11_more, fTX11, pTX11, cTX11, lTX11, sTX11, [(234, 0, 1, 11, S_X11_looks), (162, 1, 3, 0, S_X11_isIn), (256, 0, 0, 11, S_X11_byChances), (209, 0, 1, 11, S_X11_of), (222, 0, 0, 11, S_X11_distances), (213, 0, 0, 11, S_X11_spreads), (259, 0, 0, 11, S_X11_walks), (262, 0, 1, 11, S_X11_answers)])
theorem ok_X11_more : infOK iX11_more mX11_more RX11 3 68 := ⟨kkX11_more, fTX11_ok, pTX11_ok _, cTX11_ok, lTX11_ok, sTX11_ok, c_cons ⟨mX11_looks, 2, 45, ct_X11_looks, mmX11_looks, vvX11_looks, lkX11_234, ⟨by decide, by decide⟩, ⟨_, _, rfl⟩, by decide, mono_X11_looks⟩ (c_cons ⟨mX11_isIn, 0, 0, ct_X11_isIn, mmX11_isIn, stX11_isIn, lkX11_162, ⟨by decide, by decide⟩, mono_X11_isIn⟩ (c_cons ⟨mX11_byChances, 1, 21, ct_X11_byChances, mmX11_byChances, vvX11_byChances, lkX11_256, ⟨by decide, by decide⟩, ⟨_, _, rfl⟩, by decide, mono_X11_byChances⟩ (c_cons ⟨mX11_of, 0, 0, ct_X11_of, mmX11_of, vvX11_of, lkX11_209, ⟨by decide, by decide⟩, ⟨_, _, rfl⟩, by decide, mono_X11_of⟩ (c_cons ⟨mX11_distances, 1, 24, ct_X11_distances, mmX11_distances, vvX11_distances, lkX11_222, ⟨by decide, by decide⟩, ⟨_, _, rfl⟩, by decide, mono_X11_distances⟩ (c_cons ⟨mX11_spreads, 0, 0, ct_X11_spreads, mmX11_spreads, vvX11_spreads, lkX11_213, ⟨by decide, by decide⟩, ⟨_, _, rfl⟩, by decide, mono_X11_spreads⟩ (c_cons ⟨mX11_walks, 1, 22, ct_X11_walks, mmX11_walks, vvX11_walks, lkX11_259, ⟨by decide, by decide⟩, ⟨_, _, rfl⟩, by decide, mono_X11_walks⟩ (c_cons ⟨mX11_answers, 2, 47, ct_X11_answers, mmX11_answers, vvX11_answers, lkX11_262, ⟨by decide, by decide⟩, ⟨_, _, rfl⟩, by decide, mono_X11_answers⟩ (c_nil))))))))⟩
theorem mt_X11_more : mtOK [] RX11 3 68 := mt_nil
abbrev V_X11_more (R : Mem → Option AV → Prop) (pc : Nat) (lc : List (Nat × AV)) (μ : Mem) : Prop := VM mX11_more RX11 3 68 R pc lc [] μ
set_option maxRecDepth 20000 in
theorem vc_X11_more_0 {R : Mem → Option AV → Prop} {n k q : Int} {μ : Mem} (H : P_X11_looks 201 n μ ∧ (∀ (μ1 : Mem) (rv2 : Int), Q_X11_looks 201 n μ μ1 rv2 → r32 rv2 ∧ ((rv2 = 0) → R μ1 (some (kI (-1)))) ∧ (¬ (rv2 = 0) → P_X11_isIn k 1 20 μ1 ∧ r32 (F_X11_isIn k 1 20 μ1) ∧ (((F_X11_isIn k 1 20 μ1) = 0) → R μ1 (some (kI (-1)))) ∧ (¬ ((F_X11_isIn k 1 20 μ1) = 0) → P_X11_isIn q 0 2 μ1 ∧ r32 (F_X11_isIn q 0 2 μ1) ∧ ((¬ (F_X11_isIn q 0 2 μ1) = 0) → P_X11_byChances 201 μ1 ∧ (∀ (μ4 : Mem), Q_X11_byChances 201 μ1 μ4 → V_X11_more R 42 [(0, kR 201), (2, kI k), (3, kI q), (4, kI (-1)), (5, kI 0), (6, kI 0)] μ4)) ∧ (¬ (¬ (F_X11_isIn q 0 2 μ1) = 0) → R μ1 (some (kI (-1)))))))) : V_X11_more R 0 [(0, kR 201), (1, kI n), (2, kI k), (3, kI q)] μ := by
  refine vm_step2 mt_X11_more ok_X11_more [(42, [0, 2, 3, 4, 5, 6]), (45, [0, 2, 3, 4, 5, 6, 7]), (60, [0, 2, 3, 4, 5, 6, 7, 8]), (94, [0, 2, 3, 4, 5, 6, 7, 8]), (125, [0, 2, 3, 4, 5, 6, 7, 8]), (139, [0, 2, 3, 4, 5, 6, 7, 8]), (143, [0, 2, 3, 4, 5, 6, 7, 8]), (147, [0, 2, 3, 4, 5, 6, 7, 8])] 1000 ?_
  show isC 201 11 ∧ P_X11_looks 201 n μ ∧ (∀ (μ1 : Mem) (rv2 : Int), Q_X11_looks 201 n μ μ1 rv2 → r32 rv2 ∧ ((rv2 = 0) → R μ1 (some (kI (-1)))) ∧ (¬ (rv2 = 0) → P_X11_isIn k 1 20 μ1 ∧ r32 (F_X11_isIn k 1 20 μ1) ∧ (((F_X11_isIn k 1 20 μ1) = 0) → R μ1 (some (kI (-1)))) ∧ (¬ ((F_X11_isIn k 1 20 μ1) = 0) → P_X11_isIn q 0 2 μ1 ∧ r32 (F_X11_isIn q 0 2 μ1) ∧ ((¬ (F_X11_isIn q 0 2 μ1) = 0) → isC 201 11 ∧ P_X11_byChances 201 μ1 ∧ (∀ (μ4 : Mem), Q_X11_byChances 201 μ1 μ4 → V_X11_more R 42 [(0, kR 201), (2, kI k), (3, kI q), (4, kI (-1)), (5, kI 0), (6, kI 0)] μ4)) ∧ (¬ (¬ (F_X11_isIn q 0 2 μ1) = 0) → R μ1 (some (kI (-1)))))))
  exact ⟨c_201, H.1, fun μ1 rv2 hq3 => ⟨(H.2 μ1 rv2 hq3).1, fun hc9 => ((H.2 μ1 rv2 hq3).2.1 hc9), fun hc9 => ⟨((H.2 μ1 rv2 hq3).2.2 hc9).1, ⟨((H.2 μ1 rv2 hq3).2.2 hc9).2.1, fun hc8 => (((H.2 μ1 rv2 hq3).2.2 hc9).2.2.1 hc8), fun hc8 => ⟨(((H.2 μ1 rv2 hq3).2.2 hc9).2.2.2 hc8).1, ⟨(((H.2 μ1 rv2 hq3).2.2 hc9).2.2.2 hc8).2.1, fun hc7 => ⟨c_201, ((((H.2 μ1 rv2 hq3).2.2 hc9).2.2.2 hc8).2.2.1 hc7).1, fun μ4 hq6 => (((((H.2 μ1 rv2 hq3).2.2 hc9).2.2.2 hc8).2.2.1 hc7).2 μ4 hq6)⟩, fun hc7 => ((((H.2 μ1 rv2 hq3).2.2 hc9).2.2.2 hc8).2.2.2 hc7)⟩⟩⟩⟩⟩⟩
set_option maxRecDepth 20000 in
theorem vc_X11_more_42 {R : Mem → Option AV → Prop} {k q low p1 p2 : Int} {μ : Mem} (H : V_X11_more R 45 [(0, kR 201), (2, kI k), (3, kI q), (4, kI low), (5, kI p1), (6, kI p2), (7, kI 0)] μ) : V_X11_more R 42 [(0, kR 201), (2, kI k), (3, kI q), (4, kI low), (5, kI p1), (6, kI p2)] μ := by
  refine vm_step2 mt_X11_more ok_X11_more [(42, [0, 2, 3, 4, 5, 6]), (45, [0, 2, 3, 4, 5, 6, 7]), (60, [0, 2, 3, 4, 5, 6, 7, 8]), (94, [0, 2, 3, 4, 5, 6, 7, 8]), (125, [0, 2, 3, 4, 5, 6, 7, 8]), (139, [0, 2, 3, 4, 5, 6, 7, 8]), (143, [0, 2, 3, 4, 5, 6, 7, 8]), (147, [0, 2, 3, 4, 5, 6, 7, 8])] 1000 ?_
  show V_X11_more R 45 [(0, kR 201), (2, kI k), (3, kI q), (4, kI low), (5, kI p1), (6, kI p2), (7, kI 0)] μ
  exact H
set_option maxRecDepth 20000 in
theorem vc_X11_more_45 {R : Mem → Option AV → Prop} {k q low p1 p2 a : Int} {μ : Mem} (H : r32 a ∧ r32 (μ 201 13) ∧ (((μ 201 13) ≤ a) → r32 low ∧ ((0 ≤ low) → r32 q ∧ ((¬ q = 0) → r32 q ∧ ((¬ q = (1 : Int)) → R μ (some (kI p2))) ∧ (¬ (¬ q = (1 : Int)) → R μ (some (kI p1)))) ∧ (¬ (¬ q = 0) → R μ (some (kI low)))) ∧ (¬ (0 ≤ low) → R μ (some (kI (-1))))) ∧ (¬ ((μ 201 13) ≤ a) → V_X11_more R 60 [(0, kR 201), (2, kI k), (3, kI q), (4, kI low), (5, kI p1), (6, kI p2), (7, kI a), (8, kI (a + 1))] μ)) : V_X11_more R 45 [(0, kR 201), (2, kI k), (3, kI q), (4, kI low), (5, kI p1), (6, kI p2), (7, kI a)] μ := by
  refine vm_step2 mt_X11_more ok_X11_more [(42, [0, 2, 3, 4, 5, 6]), (45, [0, 2, 3, 4, 5, 6, 7]), (60, [0, 2, 3, 4, 5, 6, 7, 8]), (94, [0, 2, 3, 4, 5, 6, 7, 8]), (125, [0, 2, 3, 4, 5, 6, 7, 8]), (139, [0, 2, 3, 4, 5, 6, 7, 8]), (143, [0, 2, 3, 4, 5, 6, 7, 8]), (147, [0, 2, 3, 4, 5, 6, 7, 8])] 1000 ?_
  show isC 201 11 ∧ (r32 a ∧ r32 (μ 201 13)) ∧ (((μ 201 13) ≤ a) → r32 low ∧ ((0 ≤ low) → r32 q ∧ ((¬ q = 0) → (r32 q ∧ r32 (1 : Int)) ∧ ((¬ q = (1 : Int)) → R μ (some (kI p2))) ∧ (¬ (¬ q = (1 : Int)) → R μ (some (kI p1)))) ∧ (¬ (¬ q = 0) → R μ (some (kI low)))) ∧ (¬ (0 ≤ low) → R μ (some (kI (-1))))) ∧ (¬ ((μ 201 13) ≤ a) → V_X11_more R 60 [(0, kR 201), (2, kI k), (3, kI q), (4, kI low), (5, kI p1), (6, kI p2), (7, kI a), (8, kI (a + 1))] μ)
  exact ⟨c_201, ⟨⟨H.1, H.2.1⟩, fun hc13 => ⟨(H.2.2.1 hc13).1, fun hc12 => ⟨((H.2.2.1 hc13).2.1 hc12).1, fun hc11 => ⟨⟨(((H.2.2.1 hc13).2.1 hc12).2.1 hc11).1, by unfold r32; omega⟩, fun hc10 => ((((H.2.2.1 hc13).2.1 hc12).2.1 hc11).2.1 hc10), fun hc10 => ((((H.2.2.1 hc13).2.1 hc12).2.1 hc11).2.2 hc10)⟩, fun hc11 => (((H.2.2.1 hc13).2.1 hc12).2.2 hc11)⟩, fun hc12 => ((H.2.2.1 hc13).2.2 hc12)⟩, fun hc13 => (H.2.2.2 hc13)⟩⟩
set_option maxRecDepth 20000 in
theorem vc_X11_more_60 {R : Mem → Option AV → Prop} {k q low p1 p2 a b : Int} {μ : Mem} (H : r32 b ∧ r32 (μ 201 13) ∧ (((μ 201 13) ≤ b) → V_X11_more R 45 [(0, kR 201), (2, kI k), (3, kI q), (4, kI low), (5, kI p1), (6, kI p2), (7, kI (a + 1))] μ) ∧ (¬ ((μ 201 13) ≤ b) → P_X11_of 201 ((40 + (8 * a)) + b) μ ∧ r32 (F_X11_of 201 ((40 + (8 * a)) + b) μ) ∧ (((F_X11_of 201 ((40 + (8 * a)) + b) μ) ≤ 0) → P_X11_distances 201 μ ∧ (∀ (μ14 : Mem), Q_X11_distances 201 μ μ14 → V_X11_more R 94 [(0, kR 201), (2, kI k), (3, kI q), (4, kI low), (5, kI p1), (6, kI p2), (7, kI a), (8, kI b)] μ14)) ∧ (¬ ((F_X11_of 201 ((40 + (8 * a)) + b) μ) ≤ 0) → V_X11_more R 60 [(0, kR 201), (2, kI k), (3, kI q), (4, kI low), (5, kI p1), (6, kI p2), (7, kI a), (8, kI (b + 1))] μ))) : V_X11_more R 60 [(0, kR 201), (2, kI k), (3, kI q), (4, kI low), (5, kI p1), (6, kI p2), (7, kI a), (8, kI b)] μ := by
  refine vm_step2 mt_X11_more ok_X11_more [(42, [0, 2, 3, 4, 5, 6]), (45, [0, 2, 3, 4, 5, 6, 7]), (60, [0, 2, 3, 4, 5, 6, 7, 8]), (94, [0, 2, 3, 4, 5, 6, 7, 8]), (125, [0, 2, 3, 4, 5, 6, 7, 8]), (139, [0, 2, 3, 4, 5, 6, 7, 8]), (143, [0, 2, 3, 4, 5, 6, 7, 8]), (147, [0, 2, 3, 4, 5, 6, 7, 8])] 1000 ?_
  show isC 201 11 ∧ (r32 b ∧ r32 (μ 201 13)) ∧ (((μ 201 13) ≤ b) → V_X11_more R 45 [(0, kR 201), (2, kI k), (3, kI q), (4, kI low), (5, kI p1), (6, kI p2), (7, kI (a + 1))] μ) ∧ (¬ ((μ 201 13) ≤ b) → isC 201 11 ∧ P_X11_of 201 ((40 + (8 * a)) + b) μ ∧ r32 (F_X11_of 201 ((40 + (8 * a)) + b) μ) ∧ (((F_X11_of 201 ((40 + (8 * a)) + b) μ) ≤ 0) → isC 201 11 ∧ P_X11_distances 201 μ ∧ (∀ (μ14 : Mem), Q_X11_distances 201 μ μ14 → V_X11_more R 94 [(0, kR 201), (2, kI k), (3, kI q), (4, kI low), (5, kI p1), (6, kI p2), (7, kI a), (8, kI b)] μ14)) ∧ (¬ ((F_X11_of 201 ((40 + (8 * a)) + b) μ) ≤ 0) → V_X11_more R 60 [(0, kR 201), (2, kI k), (3, kI q), (4, kI low), (5, kI p1), (6, kI p2), (7, kI a), (8, kI (b + 1))] μ))
  exact ⟨c_201, ⟨⟨H.1, H.2.1⟩, fun hc18 => (H.2.2.1 hc18), fun hc18 => ⟨c_201, (H.2.2.2 hc18).1, ⟨(H.2.2.2 hc18).2.1, fun hc17 => ⟨c_201, ((H.2.2.2 hc18).2.2.1 hc17).1, fun μ14 hq16 => (((H.2.2.2 hc18).2.2.1 hc17).2 μ14 hq16)⟩, fun hc17 => ((H.2.2.2 hc18).2.2.2 hc17)⟩⟩⟩⟩
set_option maxRecDepth 20000 in
theorem vc_X11_more_94 {R : Mem → Option AV → Prop} {k q low p1 p2 a b : Int} {μ : Mem} (H : (0 ≤ ((8 * a) + b) ∧ ((8 * a) + b) < 64) ∧ r32 k ∧ r32 (μ 206 ((8 * a) + b)) ∧ (((μ 206 ((8 * a) + b)) ≤ k) → V_X11_more R 143 [(0, kR 201), (2, kI k), (3, kI q), (4, kI low), (5, kI p1), (6, kI p2), (7, kI a), (8, kI b)] μ) ∧ (¬ ((μ 206 ((8 * a) + b)) ≤ k) → (0 ≤ ((8 * a) + b) ∧ ((8 * a) + b) < 64) ∧ V_X11_more R 125 [(0, kR 201), (2, kI k), (3, kI q), (4, kI low), (5, kI p1), (6, kI p2), (7, kI a), (8, kI b)] (updm μ 206 ((8 * a) + b) k))) : V_X11_more R 94 [(0, kR 201), (2, kI k), (3, kI q), (4, kI low), (5, kI p1), (6, kI p2), (7, kI a), (8, kI b)] μ := by
  refine vm_step2 mt_X11_more ok_X11_more [(42, [0, 2, 3, 4, 5, 6]), (45, [0, 2, 3, 4, 5, 6, 7]), (60, [0, 2, 3, 4, 5, 6, 7, 8]), (94, [0, 2, 3, 4, 5, 6, 7, 8]), (125, [0, 2, 3, 4, 5, 6, 7, 8]), (139, [0, 2, 3, 4, 5, 6, 7, 8]), (143, [0, 2, 3, 4, 5, 6, 7, 8]), (147, [0, 2, 3, 4, 5, 6, 7, 8])] 1000 ?_
  show isC 201 11 ∧ inA 206 0 ((8 * a) + b) ∧ (r32 k ∧ r32 (μ 206 ((8 * a) + b))) ∧ (((μ 206 ((8 * a) + b)) ≤ k) → V_X11_more R 143 [(0, kR 201), (2, kI k), (3, kI q), (4, kI low), (5, kI p1), (6, kI p2), (7, kI a), (8, kI b)] μ) ∧ (¬ ((μ 206 ((8 * a) + b)) ≤ k) → isC 201 11 ∧ inA 206 0 ((8 * a) + b) ∧ V_X11_more R 125 [(0, kR 201), (2, kI k), (3, kI q), (4, kI low), (5, kI p1), (6, kI p2), (7, kI a), (8, kI b)] (updm μ 206 ((8 * a) + b) k))
  exact ⟨c_201, ⟨isArr.in a_206 H.1.1 H.1.2, ⟨⟨H.2.1, H.2.2.1⟩, fun hc19 => (H.2.2.2.1 hc19), fun hc19 => ⟨c_201, ⟨isArr.in a_206 (H.2.2.2.2 hc19).1.1 (H.2.2.2.2 hc19).1.2, (H.2.2.2.2 hc19).2⟩⟩⟩⟩⟩
set_option maxRecDepth 20000 in
theorem vc_X11_more_125 {R : Mem → Option AV → Prop} {k q low p1 p2 a b : Int} {μ : Mem} (H : (0 ≤ ((8 * b) + a) ∧ ((8 * b) + a) < 64) ∧ V_X11_more R 139 [(0, kR 201), (2, kI k), (3, kI q), (4, kI low), (5, kI p1), (6, kI p2), (7, kI a), (8, kI b)] (updm μ 206 ((8 * b) + a) k)) : V_X11_more R 125 [(0, kR 201), (2, kI k), (3, kI q), (4, kI low), (5, kI p1), (6, kI p2), (7, kI a), (8, kI b)] μ := by
  refine vm_step2 mt_X11_more ok_X11_more [(42, [0, 2, 3, 4, 5, 6]), (45, [0, 2, 3, 4, 5, 6, 7]), (60, [0, 2, 3, 4, 5, 6, 7, 8]), (94, [0, 2, 3, 4, 5, 6, 7, 8]), (125, [0, 2, 3, 4, 5, 6, 7, 8]), (139, [0, 2, 3, 4, 5, 6, 7, 8]), (143, [0, 2, 3, 4, 5, 6, 7, 8]), (147, [0, 2, 3, 4, 5, 6, 7, 8])] 1000 ?_
  show isC 201 11 ∧ inA 206 0 ((8 * b) + a) ∧ V_X11_more R 139 [(0, kR 201), (2, kI k), (3, kI q), (4, kI low), (5, kI p1), (6, kI p2), (7, kI a), (8, kI b)] (updm μ 206 ((8 * b) + a) k)
  exact ⟨c_201, ⟨isArr.in a_206 H.1.1 H.1.2, H.2⟩⟩
set_option maxRecDepth 20000 in
theorem vc_X11_more_139 {R : Mem → Option AV → Prop} {k q low p1 p2 a b : Int} {μ : Mem} (H : P_X11_spreads 201 μ ∧ (∀ (μ20 : Mem), Q_X11_spreads 201 μ μ20 → V_X11_more R 143 [(0, kR 201), (2, kI k), (3, kI q), (4, kI low), (5, kI p1), (6, kI p2), (7, kI a), (8, kI b)] μ20)) : V_X11_more R 139 [(0, kR 201), (2, kI k), (3, kI q), (4, kI low), (5, kI p1), (6, kI p2), (7, kI a), (8, kI b)] μ := by
  refine vm_step2 mt_X11_more ok_X11_more [(42, [0, 2, 3, 4, 5, 6]), (45, [0, 2, 3, 4, 5, 6, 7]), (60, [0, 2, 3, 4, 5, 6, 7, 8]), (94, [0, 2, 3, 4, 5, 6, 7, 8]), (125, [0, 2, 3, 4, 5, 6, 7, 8]), (139, [0, 2, 3, 4, 5, 6, 7, 8]), (143, [0, 2, 3, 4, 5, 6, 7, 8]), (147, [0, 2, 3, 4, 5, 6, 7, 8])] 1000 ?_
  show isC 201 11 ∧ P_X11_spreads 201 μ ∧ (∀ (μ20 : Mem), Q_X11_spreads 201 μ μ20 → V_X11_more R 143 [(0, kR 201), (2, kI k), (3, kI q), (4, kI low), (5, kI p1), (6, kI p2), (7, kI a), (8, kI b)] μ20)
  exact ⟨c_201, H.1, fun μ20 hq22 => (H.2 μ20 hq22)⟩
set_option maxRecDepth 20000 in
theorem vc_X11_more_143 {R : Mem → Option AV → Prop} {k q low p1 p2 a b : Int} {μ : Mem} (H : P_X11_walks 201 μ ∧ (∀ (μ23 : Mem), Q_X11_walks 201 μ μ23 → V_X11_more R 147 [(0, kR 201), (2, kI k), (3, kI q), (4, kI low), (5, kI p1), (6, kI p2), (7, kI a), (8, kI b)] μ23)) : V_X11_more R 143 [(0, kR 201), (2, kI k), (3, kI q), (4, kI low), (5, kI p1), (6, kI p2), (7, kI a), (8, kI b)] μ := by
  refine vm_step2 mt_X11_more ok_X11_more [(42, [0, 2, 3, 4, 5, 6]), (45, [0, 2, 3, 4, 5, 6, 7]), (60, [0, 2, 3, 4, 5, 6, 7, 8]), (94, [0, 2, 3, 4, 5, 6, 7, 8]), (125, [0, 2, 3, 4, 5, 6, 7, 8]), (139, [0, 2, 3, 4, 5, 6, 7, 8]), (143, [0, 2, 3, 4, 5, 6, 7, 8]), (147, [0, 2, 3, 4, 5, 6, 7, 8])] 1000 ?_
  show isC 201 11 ∧ P_X11_walks 201 μ ∧ (∀ (μ23 : Mem), Q_X11_walks 201 μ μ23 → V_X11_more R 147 [(0, kR 201), (2, kI k), (3, kI q), (4, kI low), (5, kI p1), (6, kI p2), (7, kI a), (8, kI b)] μ23)
  exact ⟨c_201, H.1, fun μ23 hq25 => (H.2 μ23 hq25)⟩
set_option maxRecDepth 20000 in
theorem vc_X11_more_147 {R : Mem → Option AV → Prop} {k q low p1 p2 a b : Int} {μ : Mem} (H : P_X11_answers 201 0 μ ∧ r32 low ∧ ((low < 0) → V_X11_more R 60 [(0, kR 201), (2, kI k), (3, kI q), (4, kI (F_X11_answers 201 0 μ)), (5, kI a), (6, kI b), (7, kI a), (8, kI (b + 1))] μ) ∧ (¬ (low < 0) → r32 (F_X11_answers 201 0 μ) ∧ r32 low ∧ (((F_X11_answers 201 0 μ) < low) → V_X11_more R 60 [(0, kR 201), (2, kI k), (3, kI q), (4, kI (F_X11_answers 201 0 μ)), (5, kI a), (6, kI b), (7, kI a), (8, kI (b + 1))] μ) ∧ (¬ ((F_X11_answers 201 0 μ) < low) → V_X11_more R 60 [(0, kR 201), (2, kI k), (3, kI q), (4, kI low), (5, kI p1), (6, kI p2), (7, kI a), (8, kI (b + 1))] μ))) : V_X11_more R 147 [(0, kR 201), (2, kI k), (3, kI q), (4, kI low), (5, kI p1), (6, kI p2), (7, kI a), (8, kI b)] μ := by
  refine vm_step2 mt_X11_more ok_X11_more [(42, [0, 2, 3, 4, 5, 6]), (45, [0, 2, 3, 4, 5, 6, 7]), (60, [0, 2, 3, 4, 5, 6, 7, 8]), (94, [0, 2, 3, 4, 5, 6, 7, 8]), (125, [0, 2, 3, 4, 5, 6, 7, 8]), (139, [0, 2, 3, 4, 5, 6, 7, 8]), (143, [0, 2, 3, 4, 5, 6, 7, 8]), (147, [0, 2, 3, 4, 5, 6, 7, 8])] 1000 ?_
  show isC 201 11 ∧ P_X11_answers 201 0 μ ∧ r32 low ∧ ((low < 0) → V_X11_more R 60 [(0, kR 201), (2, kI k), (3, kI q), (4, kI (F_X11_answers 201 0 μ)), (5, kI a), (6, kI b), (7, kI a), (8, kI (b + 1))] μ) ∧ (¬ (low < 0) → (r32 (F_X11_answers 201 0 μ) ∧ r32 low) ∧ (((F_X11_answers 201 0 μ) < low) → V_X11_more R 60 [(0, kR 201), (2, kI k), (3, kI q), (4, kI (F_X11_answers 201 0 μ)), (5, kI a), (6, kI b), (7, kI a), (8, kI (b + 1))] μ) ∧ (¬ ((F_X11_answers 201 0 μ) < low) → V_X11_more R 60 [(0, kR 201), (2, kI k), (3, kI q), (4, kI low), (5, kI p1), (6, kI p2), (7, kI a), (8, kI (b + 1))] μ))
  exact ⟨c_201, H.1, ⟨H.2.1, fun hc27 => (H.2.2.1 hc27), fun hc27 => ⟨⟨(H.2.2.2 hc27).1, (H.2.2.2 hc27).2.1⟩, fun hc26 => ((H.2.2.2 hc27).2.2.1 hc26), fun hc26 => ((H.2.2.2 hc27).2.2.2 hc26)⟩⟩⟩
theorem laneT_ok {v : TV} (h : VOk v) {a b k : Int} (hk : 1 ≤ k) (a0 : 0 ≤ a) (a1 : a < v 0 0) (b0 : 0 ≤ b) (b1 : b < v 0 0) (hab : a ≠ b) : ∃ M : Int → Int → Int, MatOk M ∧ ∀ x y : Int, 0 ≤ x → x < v 0 0 → 0 ≤ y → y < v 0 0 → M x y = laneM (wayV v) a b k x y := by
  refine ⟨fun x y => if (0 ≤ x ∧ x < v 0 0) ∧ 0 ≤ y ∧ y < v 0 0 then laneM (wayV v) a b k x y else 0, ⟨fun c => ?_, fun x y => ?_⟩, fun x y x0 x1 y0 y1 => if_pos ⟨⟨x0, x1⟩, y0, y1⟩⟩
  · show (if (0 ≤ c ∧ c < v 0 0) ∧ 0 ≤ c ∧ c < v 0 0 then laneM (wayV v) a b k c c else 0) = 0
    by_cases q : (0 ≤ c ∧ c < v 0 0) ∧ 0 ≤ c ∧ c < v 0 0
    · rw [if_pos q]
      unfold laneM
      rw [if_neg (by omega)]
      exact (way_net h.1 c c q.1.1 q.1.2 q.1.1 q.1.2).2
    · rw [if_neg q]
  · show 0 ≤ (if (0 ≤ x ∧ x < v 0 0) ∧ 0 ≤ y ∧ y < v 0 0 then laneM (wayV v) a b k x y else 0) ∧ (if (0 ≤ x ∧ x < v 0 0) ∧ 0 ≤ y ∧ y < v 0 0 then laneM (wayV v) a b k x y else 0) ≤ 100000
    by_cases q : (0 ≤ x ∧ x < v 0 0) ∧ 0 ≤ y ∧ y < v 0 0
    · rw [if_pos q]
      have w := way_ok h q.1.1 q.1.2 q.2.1 q.2.2
      unfold laneM
      split <;> omega
    · rw [if_neg q]; omega
/-- what stands in the model's ways with one lane more -/
theorem lane_far {v : TV} (h : VOk v) {a b k : Int} (hk : 1 ≤ k) (a0 : 0 ≤ a) (a1 : a < v 0 0) (b0 : 0 ≤ b) (b1 : b < v 0 0) (hab : a ≠ b) {x y : Int} (x0 : 0 ≤ x) (x1 : x < v 0 0) (y0 : 0 ≤ y) (y1 : y < v 0 0) : fw (laneM (wayV v) a b k) (v 0 0) x y = widV (wayV v) a b k x y :=
  wid_fw (way_net h.1) (way_tri h.1) (fun p q p0 p1 q0 q1 => way_sym h.1 p0 p1 q0 q1) (by omega) ⟨a0, a1⟩ ⟨b0, b1⟩ hab x0 x1 y0 y1
theorem lane_near {v : TV} (h : VOk v) {a b k : Int} (hk : wayV v a b ≤ k) (a0 : 0 ≤ a) (a1 : a < v 0 0) (b0 : 0 ≤ b) (b1 : b < v 0 0) {x y : Int} (x0 : 0 ≤ x) (x1 : x < v 0 0) (y0 : 0 ≤ y) (y1 : y < v 0 0) : widV (wayV v) a b k x y = wayV v x y :=
  wid_same (way_tri h.1) (fun p q p0 p1 q0 q1 => way_sym h.1 p0 p1 q0 q1) ⟨a0, a1⟩ ⟨b0, b1⟩ hk x0 x1 y0 y1
/-- the memory after a lane more was written into the ways -/
theorem lane_mem {μ m : Mem} {v : TV} {n a b k : Int} (h : Holds2 μ 206 n (wayV v)) (hk : k < wayV v a b) (hk2 : k < wayV v b a) (hn : n ≤ 8) (a0 : 0 ≤ a) (a1 : a < n) (b0 : 0 ≤ b) (b1 : b < n) (hab : a ≠ b) (e : m 206 = upd1 (upd1 (μ 206) (8 * a + b) k) (8 * b + a) k) : Holds2 m 206 n (laneM (wayV v) a b k) := by
  intro x y x0 x1 y0 y1
  rw [e]
  unfold laneM
  by_cases c2 : x = b ∧ y = a
  · rw [c2.1, c2.2, r1_eq, if_pos (Or.inr ⟨rfl, rfl⟩)]
    omega
  · rw [r1_ne (by omega)]
    by_cases c1 : x = a ∧ y = b
    · rw [c1.1, c1.2, r1_eq, if_pos (Or.inl ⟨rfl, rfl⟩)]
      omega
    · rw [r1_ne (by omega), if_neg (fun q => by rcases q with q | q; exact c1 q; exact c2 q), h x y x0 x1 y0 y1]
theorem body_X11_more {o n k w : Int} {μ : Mem} {R : Mem → Option AV → Prop} (h : P_X11_more o n k w μ) (hR : ∀ (μ' : Mem) (r : Int), Q_X11_more o n k w μ μ' r → R μ' (some (kI r))) : V_X11_more R 0 [(0, kR o), (1, kI n), (2, kI k), (3, kI w)] μ := by
  obtain ⟨rfl, hs, r_n, r_k, r_w⟩ := h
  refine vc_X11_more_0 ⟨⟨rfl, hs, r_n⟩, fun m rv q => ?_⟩
  obtain ⟨q1, q3, q4⟩ := q
  have ask : AskM μ m := fun z hz => q1 z (by omega) (by omega) (by omega)
  by_cases c : 0 ≤ n ∧ n < μ 202 0
  · obtain ⟨rfl, hl, hv⟩ := q4 c
    have hb := hl.1
    have ok := hb.v
    have hp := hb.p
    have hpe := hb.2.1
    have fin : ∀ (m' : Mem) (x : Int), AskM m m' → x = (moreT k w) (vm m) → R m' (some (kI x)) := fun m' x ha hx => hR m' x ⟨ask.trans ha, by rw [hx, onM_yes c, ← hv]⟩
    have a0 := AskM_0 m
    refine ⟨rr (by omega), fun q => absurd q (by omega), fun _ => ?_⟩
    have ir := isIn_r (x := k) (lo := 1) (hi := 20) (μ := m)
    have ir2 := isIn_r (x := w) (lo := 0) (hi := 2) (μ := m)
    have vok : VOk (vm m) := hb.2.2
    unfold moreT at fin
    refine ⟨⟨r_k, rr (by omega), rr (by omega)⟩, rr (by omega), fun d => fin m _ a0 (if_pos (Or.inl (fun x => isIn_1.mpr x d))).symm, fun d => ⟨⟨r_w, rr (by omega), rr (by omega)⟩, rr (by omega), fun d2 => ⟨⟨rfl, hl⟩, fun m4 q5 => vc_X11_more_42 ?_⟩, fun d2 => fin m _ a0 (if_pos (Or.inr (Or.inl (fun x => d2 (isIn_1.mpr x))))).symm⟩⟩
    have dk := isIn_1.mp d
    have dw := isIn_1.mp d2
    obtain ⟨wk, ev, ea, eW, er, ak⟩ := wk_of hl q5
    have aeq : awM m = awayV (vm m) := rfl
    obtain ⟨F, hF⟩ : ∃ F : Int → Int, F = fun j => rcV (widV (wayV (vm m)) (j / 8) (j % 8) k) (sumV (vm m)) (vm m 0 0) 0 (awayV (vm m)) := ⟨_, rfl⟩
    have emore : moreV (vm m) k = mnF (newB (vm m)) F := by rw [hF]; rfl
    rw [emore] at fin
    have f := wk.f
    rw [ev, ea] at f
    have Fb : ∀ j : Int, newB (vm m) j = true → 0 ≤ j → 0 ≤ F j ∧ F j ≤ 307359360 := fun j hj j0 => by
      have hj' := of_decide_eq_true hj
      have := rcV_bd (W := widV (wayV (vm m)) (j / 8) (j % 8) k) (r := sumV (vm m)) (n := vm m 0 0) (B := 274428) (by omega) (by omega) (by omega) (fun a b a0 a1 b0 b1 => wid_bd ok vok.2.1 (by omega) (by omega) (by omega) (by omega) (by omega) a0 a1 b0 b1) (fun s _ _ => by have := sumV_bd (s := s) ok; omega) (awayV (vm m)).toNat 0 (awayV (vm m)) f.2.2.1.1 f.2.2.1.2 (by omega) ⟨Int.le_refl 0, by omega⟩
      have pb := popc_bd (s := awayV (vm m))
      have : popc (awayV (vm m)) * (140 * 274428) ≤ 8 * (140 * 274428) := Int.mul_le_mul_of_nonneg_right pb.2 (by omega)
      rw [hF]
      show 0 ≤ rcV (widV (wayV (vm m)) (j / 8) (j % 8) k) (sumV (vm m)) (vm m 0 0) 0 (awayV (vm m)) ∧ rcV (widV (wayV (vm m)) (j / 8) (j % 8) k) (sumV (vm m)) (vm m 0 0) 0 (awayV (vm m)) ≤ 307359360
      omega
    -- what is held
    obtain ⟨St, hSt⟩ : ∃ St : Int → Int → Int → Int → Prop, St = fun j low p1 p2 => ((mnF (newB (vm m)) F j).2 = -1 ∧ low = -1 ∧ p1 = 0 ∧ p2 = 0) ∨ ((0 ≤ (mnF (newB (vm m)) F j).2 ∧ (mnF (newB (vm m)) F j).2 < j) ∧ low = (mnF (newB (vm m)) F j).1 ∧ p1 = (mnF (newB (vm m)) F j).2 / 8 ∧ p2 = (mnF (newB (vm m)) F j).2 % 8 ∧ 0 ≤ low ∧ low ≤ 307359360) := ⟨_, rfl⟩
    have stT : ∀ i j low p1 p2, 0 ≤ i → i ≤ j → (∀ x, i ≤ x → x < j → newB (vm m) x = false) → St i low p1 p2 → St j low p1 p2 := fun i j low p1 p2 i0 ij hn h => by
      rw [hSt] at h ⊢
      have := mnF_tail (q := newB (vm m)) (f := F) i0 ij hn
      show ((mnF (newB (vm m)) F j).2 = -1 ∧ low = -1 ∧ p1 = 0 ∧ p2 = 0) ∨ ((0 ≤ (mnF (newB (vm m)) F j).2 ∧ (mnF (newB (vm m)) F j).2 < j) ∧ low = (mnF (newB (vm m)) F j).1 ∧ p1 = (mnF (newB (vm m)) F j).2 / 8 ∧ p2 = (mnF (newB (vm m)) F j).2 % 8 ∧ 0 ≤ low ∧ low ≤ 307359360)
      rw [this]
      rcases h with h | h
      · exact Or.inl h
      · exact Or.inr ⟨by omega, h.2⟩
    have st0 : St 0 (-1) 0 0 := by rw [hSt]; exact Or.inl ⟨rfl, rfl, rfl, rfl⟩
    obtain ⟨Fr, hFr⟩ : ∃ Fr : Mem → Prop, Fr = fun x => ∀ z : Int, z ≠ 206 → z ≠ 208 → x z = m4 z := ⟨_, rfl⟩
    have frB : ∀ x, Fr x → MB x ∧ vm x = vm m ∧ awM x = awM m ∧ CR x (awM x) ∧ rm x = rm m4 ∧ x 201 13 = m 201 13 ∧ x 207 = m4 207 ∧ AskM m x := fun x hx => by
      rw [hFr] at hx
      obtain ⟨mb, evx⟩ := MB_frame wk.1 (hx 202 (by omega) (by omega)) (by rw [hx 201 (by omega) (by omega)]) (by rw [hx 201 (by omega) (by omega)])
      have eax : awM x = awM m4 := by unfold awM; rw [evx]
      refine ⟨mb, by rw [evx, ev], by rw [eax, ea], ?_, ?_, by rw [hx 201 (by omega) (by omega), q5.2 201 (by omega)], hx 207 (by omega) (by omega), fun z hz => by rw [hx z (by omega) (by omega), ak z hz]⟩
      · have := wk.2.1
        unfold CR at *
        rw [eax, hx 201 (by omega) (by omega), hx 205 (by omega) (by omega)]
        exact this
      · funext b; unfold rm; rw [eax, hx 207 (by omega) (by omega)]
    -- all lanes
    refine up_ind (P := fun a => ∀ (x : Mem) (low p1 p2 : Int), Fr x → St (8 * a) low p1 p2 → V_X11_more R 45 [(0, kR 201), (2, kI k), (3, kI w), (4, kI low), (5, kI p1), (6, kI p2), (7, kI a)] x) (lo := 0) (hi := m 201 13) ?_ ?_ 0 (by omega) (by omega) m4 (-1) 0 0 (by rw [hFr]; exact fun _ _ _ => rfl) st0
    · intro a a0' a1 iha x low p1 p2 hx hst
      obtain ⟨_, _, _, _, _, x13, _, _⟩ := frB x hx
      refine vc_X11_more_45 ?_
      rw [x13]
      refine ⟨rr (by omega), rr (by omega), fun c => absurd c (by omega), fun _ => ?_⟩
      refine up_ind (P := fun b => ∀ (x : Mem) (low p1 p2 : Int), Fr x → St (8 * a + b) low p1 p2 → V_X11_more R 60 [(0, kR 201), (2, kI k), (3, kI w), (4, kI low), (5, kI p1), (6, kI p2), (7, kI a), (8, kI b)] x) (lo := a + 1) (hi := m 201 13) ?_ ?_ (a + 1) (Int.le_refl _) (by omega) x low p1 p2 hx (stT (8 * a) (8 * a + (a + 1)) low p1 p2 (by omega) (by omega) (fun j j0 j1 => decide_eq_false (by omega)) hst)
      · intro b b0 b1 ihb x low p1 p2 hx hst
        obtain ⟨mbx, evx, eax, crx, erx, x13, x7, _⟩ := frB x hx
        have h7 := vm7_nn ok (8 * a + b)
        have lowb : -1 ≤ low ∧ low ≤ 307359360 := by
          rw [hSt] at hst
          rcases hst with h | h <;> omega
        refine vc_X11_more_60 ?_
        rw [x13, of_7' (by omega) (by omega) (by omega) (by omega), evx]
        refine ⟨rr (by omega), rr (by omega), fun c => absurd c (by omega), fun _ => ⟨⟨rfl, mbx.1, by omega, by omega⟩, rr (by omega), fun c7 => ⟨⟨rfl, mbx⟩, fun x1 hq => ?_⟩, fun c7 => ihb x low p1 p2 hx (by
          rw [show 8 * a + (b + 1) = 8 * a + b + 1 by omega]
          exact stT _ _ low p1 p2 (by omega) (by omega) (fun j j0 j1 => by
            have : j = 8 * a + b := by omega
            rw [this]
            exact decide_eq_false (fun q => by have := q.2.2; omega)) hst)⟩⟩
        have hnew : newB (vm m) (8 * a + b) = true := decide_eq_true ⟨by omega, by omega, by omega⟩
        have hFb := Fb _ hnew (by omega)
        obtain ⟨w1, w2⟩ := hq
        rw [evx] at w1
        have hx1 : Fr x1 := by
          rw [hFr] at hx ⊢
          exact fun z z6 z8 => by rw [w2 z z6, hx z z6 z8]
        -- behind the lane
        have last : ∀ y : Mem, Fr y → (∀ c d : Int, 0 ≤ c → c < vm m 0 0 → 0 ≤ d → d < vm m 0 0 → Wm y c d = widV (wayV (vm m)) a b k c d) → V_X11_more R 143 [(0, kR 201), (2, kI k), (3, kI w), (4, kI low), (5, kI p1), (6, kI p2), (7, kI a), (8, kI b)] y := by
          intro y hy hW
          obtain ⟨mby, evy, eay, cry, ery, y13, y7, _⟩ := frB y hy
          have wky : WKb y := by
            refine ⟨mby, cry, fun c d c0 c1 d0 d1 => ?_, ?_⟩
            · rw [evy] at c1 d1
              rw [hW c d c0 c1 d0 d1]
              exact wid_bd ok vok.2.1 (by omega) a0' (by omega) (by omega) (by omega) c0 c1 d0 d1
            · rw [eay, y7, ← ea]
              exact wk.2.2.2
          refine vc_X11_more_143 ⟨⟨rfl, wky⟩, fun z hz => vc_X11_more_147 ?_⟩
          obtain ⟨wkz, lsz, evz, eaz, eWz, erz, akz⟩ := ls_of wky hz
          have hz2 : Fr z := by
            rw [hFr] at hy ⊢
            exact fun q q6 q8 => by rw [hz.2 q q8, hy q q6 q8]
          have eF : F_X11_answers 201 0 z = F (8 * a + b) := by
            rw [ans_eq wkz (W := widV (wayV (vm m)) a b k) (r := sumV (vm m)) (fun c d c0 c1 d0 d1 => by
              rw [evz, evy] at c1 d1
              rw [eWz]
              exact hW c d c0 c1 d0 d1) (fun s s0 s1 hs => by
              rw [eaz, eay] at hs
              rw [erz, ery]
              exact er s s0 s1 hs), evz, evy, eaz, eay, if_neg (by omega), if_pos rfl, hF]
            show _ = rcV (widV (wayV (vm m)) ((8 * a + b) / 8) ((8 * a + b) % 8) k) (sumV (vm m)) (vm m 0 0) 0 (awayV (vm m))
            rw [show (8 * a + b) / 8 = a by omega, show (8 * a + b) % 8 = b by omega]
            rfl
          have ms := mnF_s (q := newB (vm m)) (f := F) (n := 8 * a + b) (by omega)
          have put : (low < 0 ∨ F (8 * a + b) < low) → St (8 * a + (b + 1)) (F (8 * a + b)) a b := fun hc => by
            rw [hSt] at hst ⊢
            show ((mnF (newB (vm m)) F (8 * a + (b + 1))).2 = -1 ∧ _) ∨ _
            rw [show 8 * a + (b + 1) = 8 * a + b + 1 by omega, ms]
            rcases hst with h | h
            · rw [if_pos ⟨hnew, Or.inl (by omega)⟩]
              exact Or.inr ⟨by show 0 ≤ 8 * a + b ∧ 8 * a + b < 8 * a + b + 1; omega, rfl, by show a = (8 * a + b) / 8; omega, by show b = (8 * a + b) % 8; omega, hFb⟩
            · rw [if_pos ⟨hnew, Or.inr (by omega)⟩]
              exact Or.inr ⟨by show 0 ≤ 8 * a + b ∧ 8 * a + b < 8 * a + b + 1; omega, rfl, by show a = (8 * a + b) / 8; omega, by show b = (8 * a + b) % 8; omega, hFb⟩
          have keep : ¬ low < 0 → ¬ F (8 * a + b) < low → St (8 * a + (b + 1)) low p1 p2 := fun h1 h2 => by
            rw [hSt] at hst ⊢
            show ((mnF (newB (vm m)) F (8 * a + (b + 1))).2 = -1 ∧ _) ∨ _
            rw [show 8 * a + (b + 1) = 8 * a + b + 1 by omega, ms]
            rcases hst with h | h
            · omega
            · rw [if_neg (fun q => by rcases q.2 with q | q <;> omega)]
              exact Or.inr ⟨by omega, h.2⟩
          rw [eF]
          exact ⟨⟨rfl, wkz, lsz, rr (by omega)⟩, rr (by omega), fun c => ihb z _ _ _ hz2 (put (Or.inl c)), fun c => ⟨rr (by omega), rr (by omega), fun c2 => ihb z _ _ _ hz2 (put (Or.inr c2)), fun c2 => ihb z _ _ _ hz2 (keep c c2)⟩⟩
        have wab := w1 a b a0' (by omega) (by omega) (by omega)
        have wba := way_sym ok a0' (by omega : a < vm m 0 0) (by omega : 0 ≤ b) (by omega : b < vm m 0 0)
        have wok := way_ok vok a0' (by omega : a < vm m 0 0) (by omega : 0 ≤ b) (by omega : b < vm m 0 0)
        refine vc_X11_more_94 ?_
        rw [wab]
        refine ⟨by omega, r_k, rr (by omega), fun c => last x1 hx1 (fun p q p0 p1 q0 q1 => ?_), fun c => ⟨by omega, vc_X11_more_125 ⟨by omega, vc_X11_more_139 ?_⟩⟩⟩
        · unfold Wm
          rw [w1 p q p0 p1 q0 q1]
          exact (lane_near vok c a0' (by omega) (by omega) (by omega) p0 p1 q0 q1).symm
        · obtain ⟨y, ey⟩ : ∃ y, y = updm (updm x1 206 (8 * a + b) k) 206 (8 * b + a) k := ⟨_, rfl⟩
          rw [← ey]
          have hy : Fr y := by
            rw [hFr] at hx1 ⊢
            exact fun z z6 z8 => by rw [ey, ru_ne z6, ru_ne z6, hx1 z z6 z8]
          obtain ⟨mby, evy, _, _, _, y13, _, _⟩ := frB y hy
          have hh := lane_mem (m := y) w1 (show k < wayV (vm m) a b by omega) (by omega) (by omega) a0' (by omega) (by omega) (by omega) (by omega) (show y 206 = upd1 (upd1 (x1 206) (8 * a + b) k) (8 * b + a) k by rw [ey, ru_eq, ru_eq])
          obtain ⟨Mt, hMt, eMt⟩ := laneT_ok vok dk.1 a0' (by omega : a < vm m 0 0) (by omega : 0 ≤ b) (by omega : b < vm m 0 0) (by omega)
          have hh2 : Holds2 y 206 (y 201 13) Mt := fun p q p0 p1 q0 q1 => by
            rw [y13, hpe] at p1 q1
            rw [hh p q p0 p1 q0 q1, eMt p q p0 p1 q0 q1]
          refine ⟨⟨rfl, by omega, Mt, hh2, hMt⟩, fun z hz => last z ?_ (fun p q p0 p1 q0 q1 => ?_)⟩
          · rw [hFr] at hy ⊢
            exact fun u u6 u8 => by rw [hz.2 u u6, hy u u6 u8]
          · have := hz.1 Mt hh2 hMt
            rw [y13, hpe] at this
            unfold Wm
            rw [this p q p0 p1 q0 q1, fw_congr eMt (vm m 0 0) (by omega) (Int.le_refl _) p q p0 p1 q0 q1]
            exact lane_far vok dk.1 a0' (by omega) (by omega) (by omega) (by omega) p0 p1 q0 q1
      · intro x low p1 p2 hx hst
        obtain ⟨_, _, _, _, _, x13, _, _⟩ := frB x hx
        refine vc_X11_more_60 ?_
        rw [x13]
        exact ⟨rr (by omega), rr (by omega), fun _ => iha x low p1 p2 hx (stT _ _ low p1 p2 (by omega) (by omega) (fun j j0 j1 => decide_eq_false (by omega)) hst), fun c => absurd (Int.le_refl _) c⟩
    · intro x low p1 p2 hx hst
      obtain ⟨_, _, _, _, _, x13, _, akx⟩ := frB x hx
      rw [hSt] at hst
      rw [hpe] at hst
      have lowb : -1 ≤ low ∧ low ≤ 307359360 := by
        rcases hst with h | h <;> omega
      have fn : ∀ y : Int, ¬ low < 0 → y = (if w = 0 then low else if w = 1 then p1 else p2) → R x (some (kI y)) := fun y hlo hy => fin x y akx (by
        rcases hst with h | h
        · omega
        · rw [hy, if_neg (show ¬ (¬ (1 ≤ k ∧ k ≤ 20) ∨ ¬ (0 ≤ w ∧ w ≤ 2) ∨ (mnF (newB (vm m)) F (8 * vm m 0 0)).2 < 0) from by omega), h.2.1, h.2.2.1, h.2.2.2.1])
      refine vc_X11_more_45 ?_
      rw [x13]
      refine ⟨rr (by omega), rr (by omega), fun _ => ⟨rr (by omega), fun c => ⟨r_w, fun c2 => ⟨r_w, fun c3 => fn _ (by omega) ?_, fun c3 => fn _ (by omega) ?_⟩, fun c2 => fn _ (by omega) ?_⟩, fun c => fin x _ akx ?_⟩, fun c => absurd (Int.le_refl _) c⟩
      · rw [if_neg c2, if_neg c3]
      · rw [if_neg c2, if_pos (Classical.byContradiction c3)]
      · rw [if_pos (Classical.byContradiction c2)]
      · rcases hst with h | h
        · rw [if_pos (Or.inr (Or.inr (by omega)))]
        · omega
  · have e := q3 c
    subst e
    exact ⟨rr (by omega), fun _ => hR m _ ⟨ask, (onM_no c).symm⟩, fun q => absurd rfl q⟩
theorem ct_X11_more : Ct mX11_more 3 68 0 0 (nrmS S_X11_more) := by
  refine ct_vm (own := RX11) (by decide +kernel) rfl ?_ ?_
  · intro as μ Q hS
    unfold S_X11_more at hS
    split at hS
    · exact Nat.le_of_ble_eq_true rfl
    · exact hS.elim
  · intro as μ R hS
    unfold S_X11_more at hS
    split at hS
    · exact body_X11_more hS.1 hS.2
    · exact hS.elim
