theorem b_odd {x : Int} (h0 : 0 ≤ x) (h1 : x < 2147483648) : band x 1 = x % 2 := by
  rw [b_and h0 h1 (by omega) (by omega)]
  show ((x.toNat &&& 1 : Nat) : Int) = _
  rw [Nat.and_one_is_mod]
  omega
def P_X4_costBy (o t s b : Int) (μ : Mem) : Prop := o = 198 ∧ TB μ t ∧ WY μ t ∧ (0 < s ∧ s < 256) ∧ leastB s < tv μ t 0 0 ∧ (0 ≤ b ∧ b < tv μ t 0 0)
def F_X4_costBy (_ t s b : Int) (μ : Mem) : Int := wayV (tv μ t) (leastB s) b + μ 199 (remS (remS s (leastB s)) b)
def S_X4_costBy : S0t := fun as μ Q => match as with
  | [(2, x0), (2, x1), (0, x2), (0, x3)] => P_X4_costBy x0 x1 x2 x3 μ ∧ Q μ (some (kI (F_X4_costBy x0 x1 x2 x3 μ)))
  | _ => False
theorem mono_X4_costBy : Mono S_X4_costBy := by
  intro as μ Q Q' h hS
  unfold S_X4_costBy at hS ⊢
  split at hS
  · exact ⟨hS.1, h _ _ hS.2⟩
  · exact hS.elim
def iX4_costBy : Inf := (kX4_costBy, fTX4, pTX4, cTX4, lTX4, sTX4, [(50, 1, 1, 0, S_X10_leastOf)])
theorem ok_X4_costBy : infOK iX4_costBy mX4_costBy RX4 2 42 := ⟨kkX4_costBy, fTX4_ok, pTX4_ok _, cTX4_ok, lTX4_ok, sTX4_ok, c_cons ⟨mX10_leastOf, 1, 21, ct_X10_leastOf, mmX10_leastOf, stX10_leastOf, lkX4_50, ⟨by decide, by decide⟩, mono_X10_leastOf⟩ (c_nil)⟩
theorem mt_X4_costBy : mtOK [] RX4 2 42 := mt_nil
abbrev V_X4_costBy (R : Mem → Option AV → Prop) (pc : Nat) (lc : List (Nat × AV)) (μ : Mem) : Prop := VM mX4_costBy RX4 2 42 R pc lc [] μ
set_option maxRecDepth 20000 in
theorem vc_X4_costBy_0 {R : Mem → Option AV → Prop} {s b t : Int} {μ : Mem} (ht : isT t) (H : P_X10_leastOf s μ ∧ (0 ≤ (((F_X10_leastOf s μ) * 8) + b) ∧ (((F_X10_leastOf s μ) * 8) + b) < 64) ∧ (0 ≤ (band s (bxor (bor (bshl 1 (F_X10_leastOf s μ)) (bshl 1 b)) (-1))) ∧ (band s (bxor (bor (bshl 1 (F_X10_leastOf s μ)) (bshl 1 b)) (-1))) < 256) ∧ R μ (some (kI ((μ (t + 2) (((F_X10_leastOf s μ) * 8) + b)) + (μ 199 (band s (bxor (bor (bshl 1 (F_X10_leastOf s μ)) (bshl 1 b)) (-1)))))))) : V_X4_costBy R 0 [(0, kR 198), (1, kR t), (2, kI s), (3, kI b)] μ := by
  refine vm_step2 mt_X4_costBy ok_X4_costBy [] 1000 ?_
  show P_X10_leastOf s μ ∧ isC t 7 ∧ inA (t + 2) 0 (((F_X10_leastOf s μ) * 8) + b) ∧ isC 198 4 ∧ inA 199 0 (band s (bxor (bor (bshl 1 (F_X10_leastOf s μ)) (bshl 1 b)) (-1))) ∧ R μ (some (kI ((μ (t + 2) (((F_X10_leastOf s μ) * 8) + b)) + (μ 199 (band s (bxor (bor (bshl 1 (F_X10_leastOf s μ)) (bshl 1 b)) (-1)))))))
  exact ⟨H.1, ⟨isT_C ht, ⟨isArr.in (T_ways ht) H.2.1.1 H.2.1.2, ⟨c_198, ⟨isArr.in a_199 H.2.2.1.1 H.2.2.1.2, H.2.2.2⟩⟩⟩⟩⟩
theorem body_X4_costBy {o t s b : Int} {μ : Mem} {R : Mem → Option AV → Prop} (h : P_X4_costBy o t s b μ) (hR : R μ (some (kI (F_X4_costBy o t s b μ)))) : V_X4_costBy R 0 [(0, kR o), (1, kR t), (2, kI s), (3, kI b)] μ := by
  obtain ⟨rfl, ⟨ht, ok⟩, hw, hs, hl, hb⟩ := h
  have hp : 2 ≤ tv μ t 0 0 ∧ tv μ t 0 0 ≤ 8 := ok.1
  have hn := least_ne hs.1 hs.2
  refine vc_X4_costBy_0 ht ?_
  unfold P_X10_leastOf F_X10_leastOf
  have e : max 0 (leastB s) = leastB s := by omega
  rw [e, b_rem2 (by omega) (by omega) hn.1.1 (by omega) hb.1 (by omega), e8 hw hn.1.1 hl hb.1 hb.2]
  have h1 := rem_bd (s := s) (a := leastB s) (by omega)
  have h2 := rem_bd (s := remS s (leastB s)) (a := b) h1.1
  exact ⟨by omega, by omega, by omega, hR⟩
theorem ct_X4_costBy : Ct mX4_costBy 2 42 0 0 (nrmS S_X4_costBy) := by
  refine ct_vm (own := RX4) (by decide +kernel) rfl ?_ ?_
  · intro as μ Q hS
    unfold S_X4_costBy at hS
    split at hS
    · exact Nat.le_of_ble_eq_true rfl
    · exact hS.elim
  · intro as μ R hS
    unfold S_X4_costBy at hS
    split at hS
    · exact body_X4_costBy hS.1 hS.2
    · exact hS.elim
def selB (s b : Int) : Bool := hasB s b && decide (leastB s < b)
def P_X4_fellowIn (o t s : Int) (μ : Mem) : Prop := o = 198 ∧ TB μ t ∧ WY μ t ∧ (0 < s ∧ s < 256) ∧ leastB s < tv μ t 0 0 ∧ ∀ b : Int, 0 ≤ b → b < tv μ t 0 0 → selB s b = true → 0 ≤ μ 199 (remS (remS s (leastB s)) b) ∧ μ 199 (remS (remS s (leastB s)) b) ≤ 1000000
def F_X4_fellowIn (_ t s : Int) (μ : Mem) : Int := max 0 (mnF (selB s) (fun b => wayV (tv μ t) (leastB s) b + μ 199 (remS (remS s (leastB s)) b)) (tv μ t 0 0)).2
def S_X4_fellowIn : S0t := fun as μ Q => match as with
  | [(2, x0), (2, x1), (0, x2)] => P_X4_fellowIn x0 x1 x2 μ ∧ Q μ (some (kI (F_X4_fellowIn x0 x1 x2 μ)))
  | _ => False
theorem mono_X4_fellowIn : Mono S_X4_fellowIn := by
  intro as μ Q Q' h hS
  unfold S_X4_fellowIn at hS ⊢
  split at hS
  · exact ⟨hS.1, h _ _ hS.2⟩
  · exact hS.elim
def iX4_fellowIn : Inf := (kX4_fellowIn, fTX4, pTX4, cTX4, lTX4, sTX4, [(50, 1, 1, 0, S_X10_leastOf), (54, 1, 2, 0, S_X10_isIn), (37, 0, 3, 4, S_X4_costBy)])
theorem ok_X4_fellowIn : infOK iX4_fellowIn mX4_fellowIn RX4 3 66 := ⟨kkX4_fellowIn, fTX4_ok, pTX4_ok _, cTX4_ok, lTX4_ok, sTX4_ok, c_cons ⟨mX10_leastOf, 1, 21, ct_X10_leastOf, mmX10_leastOf, stX10_leastOf, lkX4_50, ⟨by decide, by decide⟩, mono_X10_leastOf⟩ (c_cons ⟨mX10_isIn, 0, 0, ct_X10_isIn, mmX10_isIn, stX10_isIn, lkX4_54, ⟨by decide, by decide⟩, mono_X10_isIn⟩ (c_cons ⟨mX4_costBy, 2, 42, ct_X4_costBy, mmX4_costBy, vvX4_costBy, lkX4_37, ⟨by decide, by decide⟩, ⟨_, _, rfl⟩, by decide, mono_X4_costBy⟩ (c_nil)))⟩
theorem mt_X4_fellowIn : mtOK [] RX4 3 66 := mt_nil
abbrev V_X4_fellowIn (R : Mem → Option AV → Prop) (pc : Nat) (lc : List (Nat × AV)) (μ : Mem) : Prop := VM mX4_fellowIn RX4 3 66 R pc lc [] μ
set_option maxRecDepth 20000 in
theorem vc_X4_fellowIn_0 {R : Mem → Option AV → Prop} {s t : Int} {μ : Mem} (ht : isT t) (H : P_X10_leastOf s μ ∧ V_X4_fellowIn R 14 [(0, kR 198), (1, kR t), (2, kI s), (3, kI 0), (4, kI 2147483647), (5, kI ((F_X10_leastOf s μ) + 1))] μ) : V_X4_fellowIn R 0 [(0, kR 198), (1, kR t), (2, kI s)] μ := by
  refine vm_step2 mt_X4_fellowIn ok_X4_fellowIn [(14, [0, 1, 2, 3, 4, 5])] 1000 ?_
  show P_X10_leastOf s μ ∧ V_X4_fellowIn R 14 [(0, kR 198), (1, kR t), (2, kI s), (3, kI 0), (4, kI 2147483647), (5, kI ((F_X10_leastOf s μ) + 1))] μ
  exact ⟨H.1, H.2⟩
set_option maxRecDepth 20000 in
theorem vc_X4_fellowIn_14 {R : Mem → Option AV → Prop} {s best few b t : Int} {μ : Mem} (ht : isT t) (H : r32 b ∧ r32 (μ t 1) ∧ (((μ t 1) ≤ b) → R μ (some (kI best))) ∧ (¬ ((μ t 1) ≤ b) → P_X10_isIn s b μ ∧ r32 (F_X10_isIn s b μ) ∧ (((F_X10_isIn s b μ) = 0) → V_X4_fellowIn R 14 [(0, kR 198), (1, kR t), (2, kI s), (3, kI best), (4, kI few), (5, kI (b + 1))] μ) ∧ (¬ ((F_X10_isIn s b μ) = 0) → P_X4_costBy 198 t s b μ ∧ r32 (F_X4_costBy 198 t s b μ) ∧ r32 few ∧ ((few ≤ (F_X4_costBy 198 t s b μ)) → V_X4_fellowIn R 14 [(0, kR 198), (1, kR t), (2, kI s), (3, kI best), (4, kI few), (5, kI (b + 1))] μ) ∧ (¬ (few ≤ (F_X4_costBy 198 t s b μ)) → P_X4_costBy 198 t s b μ ∧ V_X4_fellowIn R 14 [(0, kR 198), (1, kR t), (2, kI s), (3, kI b), (4, kI (F_X4_costBy 198 t s b μ)), (5, kI (b + 1))] μ)))) : V_X4_fellowIn R 14 [(0, kR 198), (1, kR t), (2, kI s), (3, kI best), (4, kI few), (5, kI b)] μ := by
  refine vm_step2 mt_X4_fellowIn ok_X4_fellowIn [(14, [0, 1, 2, 3, 4, 5])] 1000 ?_
  show isC t 7 ∧ (r32 b ∧ r32 (μ t 1)) ∧ (((μ t 1) ≤ b) → R μ (some (kI best))) ∧ (¬ ((μ t 1) ≤ b) → P_X10_isIn s b μ ∧ r32 (F_X10_isIn s b μ) ∧ (((F_X10_isIn s b μ) = 0) → V_X4_fellowIn R 14 [(0, kR 198), (1, kR t), (2, kI s), (3, kI best), (4, kI few), (5, kI (b + 1))] μ) ∧ (¬ ((F_X10_isIn s b μ) = 0) → isC 198 4 ∧ P_X4_costBy 198 t s b μ ∧ (r32 (F_X4_costBy 198 t s b μ) ∧ r32 few) ∧ ((few ≤ (F_X4_costBy 198 t s b μ)) → V_X4_fellowIn R 14 [(0, kR 198), (1, kR t), (2, kI s), (3, kI best), (4, kI few), (5, kI (b + 1))] μ) ∧ (¬ (few ≤ (F_X4_costBy 198 t s b μ)) → isC 198 4 ∧ P_X4_costBy 198 t s b μ ∧ V_X4_fellowIn R 14 [(0, kR 198), (1, kR t), (2, kI s), (3, kI b), (4, kI (F_X4_costBy 198 t s b μ)), (5, kI (b + 1))] μ)))
  exact ⟨isT_C ht, ⟨⟨H.1, H.2.1⟩, fun hc3 => (H.2.2.1 hc3), fun hc3 => ⟨(H.2.2.2 hc3).1, ⟨(H.2.2.2 hc3).2.1, fun hc2 => ((H.2.2.2 hc3).2.2.1 hc2), fun hc2 => ⟨c_198, ((H.2.2.2 hc3).2.2.2 hc2).1, ⟨⟨((H.2.2.2 hc3).2.2.2 hc2).2.1, ((H.2.2.2 hc3).2.2.2 hc2).2.2.1⟩, fun hc1 => (((H.2.2.2 hc3).2.2.2 hc2).2.2.2.1 hc1), fun hc1 => ⟨c_198, (((H.2.2.2 hc3).2.2.2 hc2).2.2.2.2 hc1).1, (((H.2.2.2 hc3).2.2.2 hc2).2.2.2.2 hc1).2⟩⟩⟩⟩⟩⟩⟩
theorem body_X4_fellowIn {o t s : Int} {μ : Mem} {R : Mem → Option AV → Prop} (h : P_X4_fellowIn o t s μ) (hR : R μ (some (kI (F_X4_fellowIn o t s μ)))) : V_X4_fellowIn R 0 [(0, kR o), (1, kR t), (2, kI s)] μ := by
  obtain ⟨rfl, ⟨ht, ok⟩, hw, hs, hl, hc⟩ := h
  have hp : 2 ≤ μ t 1 ∧ μ t 1 ≤ 8 := ok.1
  have hpe : tv μ t 0 0 = μ t 1 := rfl
  have hn := least_ne hs.1 hs.2
  refine vc_X4_fellowIn_0 ht ?_
  unfold P_X10_leastOf F_X10_leastOf
  have e : max 0 (leastB s) = leastB s := by omega
  rw [e]
  refine ⟨by omega, ?_⟩
  unfold F_X4_fellowIn at hR
  generalize hM : mnF (selB s) (fun b => wayV (tv μ t) (leastB s) b + μ 199 (remS (remS s (leastB s)) b)) = M at hR
  have key : ∀ b : Int, leastB s + 1 ≤ b → b ≤ μ t 1 → ((M b).2 = -1 ∨ 0 ≤ (M b).2 ∧ 0 ≤ (M b).1 ∧ (M b).1 ≤ 1000140) → V_X4_fellowIn R 14 [(0, kR 198), (1, kR t), (2, kI s), (3, kI (max 0 (M b).2)), (4, kI (if (M b).2 < 0 then 2147483647 else (M b).1)), (5, kI b)] μ := by
    refine up_ind (P := fun b => ((M b).2 = -1 ∨ 0 ≤ (M b).2 ∧ 0 ≤ (M b).1 ∧ (M b).1 ≤ 1000140) → V_X4_fellowIn R 14 [(0, kR 198), (1, kR t), (2, kI s), (3, kI (max 0 (M b).2)), (4, kI (if (M b).2 < 0 then 2147483647 else (M b).1)), (5, kI b)] μ) ?_ ?_
    · intro b b0 b1 ih hm
      have es : M (b + 1) = if selB s b = true ∧ ((M b).2 < 0 ∨ wayV (tv μ t) (leastB s) b + μ 199 (remS (remS s (leastB s)) b) < (M b).1) then (wayV (tv μ t) (leastB s) b + μ 199 (remS (remS s (leastB s)) b), b) else M b := by rw [← hM]; exact mnF_s (by omega)
      rw [es] at ih
      have esel : selB s b = hasB s b := by unfold selB; rw [decide_eq_true (show leastB s < b by omega), Bool.and_true]
      have hcb : P_X4_costBy 198 t s b μ := ⟨rfl, ⟨ht, ok⟩, hw, hs, hl, by omega⟩
      have hwb := hw (leastB s) b hn.1.1 hl (by omega) b1
      refine vc_X4_fellowIn_14 ht ⟨rr (by omega), rr (by omega), fun c => absurd c (by omega), fun _ => ⟨⟨by omega, by omega⟩, ?_⟩⟩
      unfold F_X10_isIn
      cases hb : hasB s b
      · rw [esel, hb, if_neg (fun q => by simp at q)] at ih
        rw [if_neg (by simp)]
        exact ⟨rr (by omega), fun _ => ih hm, fun c => absurd rfl c⟩
      · have hcs := hc b (by omega) b1 (by rw [esel, hb])
        rw [esel, hb] at ih
        rw [if_pos rfl]
        unfold F_X4_costBy
        refine ⟨rr (by omega), fun c => absurd c (by omega), fun _ => ⟨hcb, rr (by omega), rr (by by_cases q : (M b).2 < 0 <;> simp only [q, if_true, if_false] <;> omega), fun c => ?_, fun c => ⟨hcb, ?_⟩⟩⟩
        · by_cases q : (M b).2 < 0
          · rw [if_pos q] at c; omega
          · rw [if_neg q] at c
            rw [if_neg (by omega)] at ih
            exact ih hm
        · rw [if_pos ⟨rfl, by
            by_cases q : (M b).2 < 0
            · exact Or.inl q
            · rw [if_neg q] at c; exact Or.inr (by omega)⟩] at ih
          refine v_eq (ih (Or.inr ⟨by show 0 ≤ b; omega, by show 0 ≤ wayV (tv μ t) (leastB s) b + _; omega, by show wayV (tv μ t) (leastB s) b + _ ≤ 1000140; omega⟩)) ?_ rfl
          have e1 : max 0 b = b := by omega
          show [(0, kR 198), (1, kR t), (2, kI s), (3, kI (max 0 b)), (4, kI (if b < 0 then 2147483647 else wayV (tv μ t) (leastB s) b + μ 199 (remS (remS s (leastB s)) b))), (5, kI (b + 1))] = _
          rw [e1, if_neg (by omega)]
    · intro hm
      exact vc_X4_fellowIn_14 ht ⟨rr (by omega), rr (by omega), fun _ => hR, fun c => absurd (Int.le_refl _) c⟩
  have e0 : M (leastB s + 1) = (0, -1) := by
    rw [← hM]
    refine mnF_none (by omega) (fun b b0 b1 => ?_)
    unfold selB
    rw [decide_eq_false (by omega), Bool.and_false]
  have := key (leastB s + 1) (Int.le_refl _) (by omega) (Or.inl (by rw [e0]))
  rw [e0] at this
  exact this
theorem ct_X4_fellowIn : Ct mX4_fellowIn 3 66 0 0 (nrmS S_X4_fellowIn) := by
  refine ct_vm (own := RX4) (by decide +kernel) rfl ?_ ?_
  · intro as μ Q hS
    unfold S_X4_fellowIn at hS
    split at hS
    · exact Nat.le_of_ble_eq_true rfl
    · exact hS.elim
  · intro as μ R hS
    unfold S_X4_fellowIn at hS
    split at hS
    · exact body_X4_fellowIn hS.1 hS.2
    · exact hS.elim
