def P_X6_stopAt (o k : Int) (μ : Mem) : Prop := o = 149 ∧ r32 k ∧ (0 ≤ μ 149 6 ∧ μ 149 6 ≤ 8)
def F_X6_stopAt (_ k : Int) (μ : Mem) : Int := if 0 ≤ k ∧ k < μ 149 6 then μ 155 k else -1
def S_X6_stopAt : S0t := fun as μ Q => match as with
  | [(2, x0), (0, x1)] => P_X6_stopAt x0 x1 μ ∧ Q μ (some (kI (F_X6_stopAt x0 x1 μ)))
  | _ => False
theorem mono_X6_stopAt : Mono S_X6_stopAt := by
  intro as μ Q Q' h hS
  unfold S_X6_stopAt at hS ⊢
  split at hS
  · exact ⟨hS.1, h _ _ hS.2⟩
  · exact hS.elim
def iX6_stopAt : Inf := (kX6_stopAt, fTX6, pTX6, cTX6, lTX6, sTX6, [])
theorem ok_X6_stopAt : infOK iX6_stopAt mX6_stopAt RX6 0 0 := ⟨kkX6_stopAt, fTX6_ok, pTX6_ok _, cTX6_ok, lTX6_ok, sTX6_ok, c_nil⟩
theorem mt_X6_stopAt : mtOK [] RX6 0 0 := mt_nil
abbrev V_X6_stopAt (R : Mem → Option AV → Prop) (pc : Nat) (lc : List (Nat × AV)) (μ : Mem) : Prop := VM mX6_stopAt RX6 0 0 R pc lc [] μ
set_option maxRecDepth 20000 in
theorem vc_X6_stopAt_0 {R : Mem → Option AV → Prop} {k : Int} {μ : Mem} (H : r32 k ∧ ((k < 0) → R μ (some (kI (-1)))) ∧ (¬ (k < 0) → r32 k ∧ r32 (μ 149 6) ∧ (((μ 149 6) ≤ k) → R μ (some (kI (-1)))) ∧ (¬ ((μ 149 6) ≤ k) → (0 ≤ k ∧ k < 8) ∧ R μ (some (kI (μ 155 k)))))) : V_X6_stopAt R 0 [(0, kR 149), (1, kI k)] μ := by
  refine vm_step2 mt_X6_stopAt ok_X6_stopAt [] 1000 ?_
  show r32 k ∧ ((k < 0) → R μ (some (kI (-1)))) ∧ (¬ (k < 0) → isC 149 6 ∧ (r32 k ∧ r32 (μ 149 6)) ∧ (((μ 149 6) ≤ k) → R μ (some (kI (-1)))) ∧ (¬ ((μ 149 6) ≤ k) → isC 149 6 ∧ inA 155 0 k ∧ R μ (some (kI (μ 155 k)))))
  exact ⟨H.1, fun hc2 => (H.2.1 hc2), fun hc2 => ⟨c_149, ⟨⟨(H.2.2 hc2).1, (H.2.2 hc2).2.1⟩, fun hc1 => ((H.2.2 hc2).2.2.1 hc1), fun hc1 => ⟨c_149, ⟨isArr.in a_155 ((H.2.2 hc2).2.2.2 hc1).1.1 ((H.2.2 hc2).2.2.2 hc1).1.2, ((H.2.2 hc2).2.2.2 hc1).2⟩⟩⟩⟩⟩
theorem body_X6_stopAt {o k : Int} {μ : Mem} {R : Mem → Option AV → Prop} (h : P_X6_stopAt o k μ) (hR : R μ (some (kI (F_X6_stopAt o k μ)))) : V_X6_stopAt R 0 [(0, kR o), (1, kI k)] μ := by
  obtain ⟨rfl, hk, hl⟩ := h
  unfold F_X6_stopAt at hR
  refine vc_X6_stopAt_0 ⟨hk, fun c => ?_, fun c => ⟨hk, rr (by omega), fun c2 => ?_, fun c2 => ⟨by omega, ?_⟩⟩⟩
  · rw [if_neg (by omega)] at hR; exact hR
  · rw [if_neg (by omega)] at hR; exact hR
  · rw [if_pos (by omega)] at hR; exact hR
theorem ct_X6_stopAt : Ct mX6_stopAt 0 0 0 0 (nrmS S_X6_stopAt) := by
  refine ct_vm (own := RX6) (by decide +kernel) rfl ?_ ?_
  · intro as μ Q hS
    unfold S_X6_stopAt at hS
    split at hS
    · exact Nat.le_of_ble_eq_true rfl
    · exact hS.elim
  · intro as μ R hS
    unfold S_X6_stopAt at hS
    split at hS
    · exact body_X6_stopAt hS.1 hS.2
    · exact hS.elim
def P_X6_costBy (o z fm to s : Int) (_ : Mem) : Prop := o = 149 ∧ isArr z 0 64 ∧ (0 ≤ fm ∧ fm < 8) ∧ (0 ≤ to ∧ to < 8) ∧ (0 ≤ s ∧ s < 256) ∧ hasB s to = true
def F_X6_costBy (_ z fm to s : Int) (μ : Mem) : Int := μ z (8 * fm + to) * μ 152 s + μ 153 (256 * to + remS s to)
def S_X6_costBy : S0t := fun as μ Q => match as with
  | [(2, x0), (2, x1), (0, x2), (0, x3), (0, x4)] => P_X6_costBy x0 x1 x2 x3 x4 μ ∧ Q μ (some (kI (F_X6_costBy x0 x1 x2 x3 x4 μ)))
  | _ => False
theorem mono_X6_costBy : Mono S_X6_costBy := by
  intro as μ Q Q' h hS
  unfold S_X6_costBy at hS ⊢
  split at hS
  · exact ⟨hS.1, h _ _ hS.2⟩
  · exact hS.elim
def iX6_costBy : Inf := (kX6_costBy, fTX6, pTX6, cTX6, lTX6, sTX6, [])
theorem ok_X6_costBy : infOK iX6_costBy mX6_costBy RX6 0 0 := ⟨kkX6_costBy, fTX6_ok, pTX6_ok _, cTX6_ok, lTX6_ok, sTX6_ok, c_nil⟩
theorem mt_X6_costBy : mtOK [] RX6 0 0 := mt_nil
abbrev V_X6_costBy (R : Mem → Option AV → Prop) (pc : Nat) (lc : List (Nat × AV)) (μ : Mem) : Prop := VM mX6_costBy RX6 0 0 R pc lc [] μ
set_option maxRecDepth 20000 in
theorem vc_X6_costBy_0 {R : Mem → Option AV → Prop} {fm to_ s z : Int} {μ : Mem} (hz : isArr z 0 64) (H : (0 ≤ ((fm * 8) + to_) ∧ ((fm * 8) + to_) < 64) ∧ (0 ≤ s ∧ s < 256) ∧ (0 ≤ ((to_ * 256) + (bxor s (bshl 1 to_))) ∧ ((to_ * 256) + (bxor s (bshl 1 to_))) < 2048) ∧ R μ (some (kI (((μ z ((fm * 8) + to_)) * (μ 152 s)) + (μ 153 ((to_ * 256) + (bxor s (bshl 1 to_)))))))) : V_X6_costBy R 0 [(0, kR 149), (1, kR z), (2, kI fm), (3, kI to_), (4, kI s)] μ := by
  refine vm_step2 mt_X6_costBy ok_X6_costBy [] 1000 ?_
  show inA z 0 ((fm * 8) + to_) ∧ isC 149 6 ∧ inA 152 0 s ∧ isC 149 6 ∧ inA 153 0 ((to_ * 256) + (bxor s (bshl 1 to_))) ∧ R μ (some (kI (((μ z ((fm * 8) + to_)) * (μ 152 s)) + (μ 153 ((to_ * 256) + (bxor s (bshl 1 to_)))))))
  exact ⟨isArr.in hz H.1.1 H.1.2, ⟨c_149, ⟨isArr.in a_152 H.2.1.1 H.2.1.2, ⟨c_149, ⟨isArr.in a_153 H.2.2.1.1 H.2.2.1.2, H.2.2.2⟩⟩⟩⟩⟩
theorem body_X6_costBy {o z fm to s : Int} {μ : Mem} {R : Mem → Option AV → Prop} (h : P_X6_costBy o z fm to s μ) (hR : R μ (some (kI (F_X6_costBy o z fm to s μ)))) : V_X6_costBy R 0 [(0, kR o), (1, kR z), (2, kI fm), (3, kI to), (4, kI s)] μ := by
  obtain ⟨rfl, hz, hf, ht, hs, hh⟩ := h
  have hr := rem_bd (s := s) (a := to) hs.1
  refine vc_X6_costBy_0 hz ?_
  rw [b_xrem hs.1 (by omega) ht.1 (by omega) hh]
  have e1 : fm * 8 + to = 8 * fm + to := by omega
  have e2 : to * 256 + remS s to = 256 * to + remS s to := by omega
  rw [e1, e2]
  exact ⟨by omega, by omega, by omega, hR⟩
theorem ct_X6_costBy : Ct mX6_costBy 0 0 0 0 (nrmS S_X6_costBy) := by
  refine ct_vm (own := RX6) (by decide +kernel) rfl ?_ ?_
  · intro as μ Q hS
    unfold S_X6_costBy at hS
    split at hS
    · exact Nat.le_of_ble_eq_true rfl
    · exact hS.elim
  · intro as μ R hS
    unfold S_X6_costBy at hS
    split at hS
    · exact body_X6_costBy hS.1 hS.2
    · exact hS.elim
def P_X6_leastFrom (o z n fm s : Int) (μ : Mem) : Prop := o = 149 ∧ isArr z 0 64 ∧ (0 ≤ n ∧ n ≤ 8) ∧ (0 ≤ fm ∧ fm < 8) ∧ (0 ≤ s ∧ s < 256) ∧ ∀ to : Int, 0 ≤ to → to < n → hasB s to = true → 0 ≤ F_X6_costBy 149 z fm to s μ ∧ F_X6_costBy 149 z fm to s μ ≤ 1000000000
def F_X6_leastFrom (_ z n fm s : Int) (μ : Mem) : Int := if (mnF (hasB s) (fun to => F_X6_costBy 149 z fm to s μ) n).2 < 0 then 2147483647 else (mnF (hasB s) (fun to => F_X6_costBy 149 z fm to s μ) n).1
def S_X6_leastFrom : S0t := fun as μ Q => match as with
  | [(2, x0), (2, x1), (0, x2), (0, x3), (0, x4)] => P_X6_leastFrom x0 x1 x2 x3 x4 μ ∧ Q μ (some (kI (F_X6_leastFrom x0 x1 x2 x3 x4 μ)))
  | _ => False
theorem mono_X6_leastFrom : Mono S_X6_leastFrom := by
  intro as μ Q Q' h hS
  unfold S_X6_leastFrom at hS ⊢
  split at hS
  · exact ⟨hS.1, h _ _ hS.2⟩
  · exact hS.elim
def iX6_leastFrom : Inf := (kX6_leastFrom, fTX6, pTX6, cTX6, lTX6, sTX6, [(110, 1, 2, 0, S_X10_isIn), (132, 0, 4, 6, S_X6_costBy)])
theorem ok_X6_leastFrom : infOK iX6_leastFrom mX6_leastFrom RX6 1 24 := ⟨kkX6_leastFrom, fTX6_ok, pTX6_ok _, cTX6_ok, lTX6_ok, sTX6_ok, c_cons ⟨mX10_isIn, 0, 0, ct_X10_isIn, mmX10_isIn, stX10_isIn, lkX6_110, ⟨by decide, by decide⟩, mono_X10_isIn⟩ (c_cons ⟨mX6_costBy, 0, 0, ct_X6_costBy, mmX6_costBy, vvX6_costBy, lkX6_132, ⟨by decide, by decide⟩, ⟨_, _, rfl⟩, by decide, mono_X6_costBy⟩ (c_nil))⟩
theorem mt_X6_leastFrom : mtOK [(135, 0)] RX6 1 24 := mt_cons ⟨MI0, by decide, by decide, ML_X6_135, MS0, MC0⟩ (mt_nil)
abbrev V_X6_leastFrom (R : Mem → Option AV → Prop) (pc : Nat) (lc : List (Nat × AV)) (μ : Mem) : Prop := VM mX6_leastFrom RX6 1 24 R pc lc [] μ
set_option maxRecDepth 20000 in
theorem vc_X6_leastFrom_0 {R : Mem → Option AV → Prop} {n fm s z : Int} {μ : Mem} (hz : isArr z 0 64) (H : V_X6_leastFrom R 7 [(0, kR 149), (1, kR z), (2, kI n), (3, kI fm), (4, kI s), (5, kI 2147483647), (6, kI 0)] μ) : V_X6_leastFrom R 0 [(0, kR 149), (1, kR z), (2, kI n), (3, kI fm), (4, kI s)] μ := by
  refine vm_step2 mt_X6_leastFrom ok_X6_leastFrom [(7, [0, 1, 2, 3, 4, 5, 6])] 1000 ?_
  show V_X6_leastFrom R 7 [(0, kR 149), (1, kR z), (2, kI n), (3, kI fm), (4, kI s), (5, kI 2147483647), (6, kI 0)] μ
  exact H
set_option maxRecDepth 20000 in
theorem vc_X6_leastFrom_7 {R : Mem → Option AV → Prop} {n fm s fd to_ z : Int} {μ : Mem} (hz : isArr z 0 64) (H : r32 to_ ∧ r32 n ∧ ((n ≤ to_) → R μ (some (kI fd))) ∧ (¬ (n ≤ to_) → P_X10_isIn s to_ μ ∧ r32 (F_X10_isIn s to_ μ) ∧ (((F_X10_isIn s to_ μ) = 0) → V_X6_leastFrom R 7 [(0, kR 149), (1, kR z), (2, kI n), (3, kI fm), (4, kI s), (5, kI fd), (6, kI (to_ + 1))] μ) ∧ (¬ ((F_X10_isIn s to_ μ) = 0) → P_X6_costBy 149 z fm to_ s μ ∧ r32 fd ∧ r32 (F_X6_costBy 149 z fm to_ s μ) ∧ V_X6_leastFrom R 7 [(0, kR 149), (1, kR z), (2, kI n), (3, kI fm), (4, kI s), (5, kI (min fd (F_X6_costBy 149 z fm to_ s μ))), (6, kI (to_ + 1))] μ))) : V_X6_leastFrom R 7 [(0, kR 149), (1, kR z), (2, kI n), (3, kI fm), (4, kI s), (5, kI fd), (6, kI to_)] μ := by
  refine vm_step2 mt_X6_leastFrom ok_X6_leastFrom [(7, [0, 1, 2, 3, 4, 5, 6])] 1000 ?_
  show (r32 to_ ∧ r32 n) ∧ ((n ≤ to_) → R μ (some (kI fd))) ∧ (¬ (n ≤ to_) → P_X10_isIn s to_ μ ∧ r32 (F_X10_isIn s to_ μ) ∧ (((F_X10_isIn s to_ μ) = 0) → V_X6_leastFrom R 7 [(0, kR 149), (1, kR z), (2, kI n), (3, kI fm), (4, kI s), (5, kI fd), (6, kI (to_ + 1))] μ) ∧ (¬ ((F_X10_isIn s to_ μ) = 0) → isC 149 6 ∧ P_X6_costBy 149 z fm to_ s μ ∧ (r32 fd ∧ r32 (F_X6_costBy 149 z fm to_ s μ)) ∧ V_X6_leastFrom R 7 [(0, kR 149), (1, kR z), (2, kI n), (3, kI fm), (4, kI s), (5, kI (min fd (F_X6_costBy 149 z fm to_ s μ))), (6, kI (to_ + 1))] μ))
  exact ⟨⟨H.1, H.2.1⟩, fun hc2 => (H.2.2.1 hc2), fun hc2 => ⟨(H.2.2.2 hc2).1, ⟨(H.2.2.2 hc2).2.1, fun hc1 => ((H.2.2.2 hc2).2.2.1 hc1), fun hc1 => ⟨c_149, ((H.2.2.2 hc2).2.2.2 hc1).1, ⟨⟨((H.2.2.2 hc2).2.2.2 hc1).2.1, ((H.2.2.2 hc2).2.2.2 hc1).2.2.1⟩, ((H.2.2.2 hc2).2.2.2 hc1).2.2.2⟩⟩⟩⟩⟩
theorem body_X6_leastFrom {o z n fm s : Int} {μ : Mem} {R : Mem → Option AV → Prop} (h : P_X6_leastFrom o z n fm s μ) (hR : R μ (some (kI (F_X6_leastFrom o z n fm s μ)))) : V_X6_leastFrom R 0 [(0, kR o), (1, kR z), (2, kI n), (3, kI fm), (4, kI s)] μ := by
  obtain ⟨rfl, hz, hn, hf, hs, hc⟩ := h
  refine vc_X6_leastFrom_0 hz ?_
  unfold F_X6_leastFrom at hR
  generalize hM : mnF (hasB s) (fun to => F_X6_costBy 149 z fm to s μ) = M at hR
  have key : ∀ b : Int, 0 ≤ b → b ≤ n → ((M b).2 = -1 ∨ 0 ≤ (M b).2 ∧ 0 ≤ (M b).1 ∧ (M b).1 ≤ 1000000000) → V_X6_leastFrom R 7 [(0, kR 149), (1, kR z), (2, kI n), (3, kI fm), (4, kI s), (5, kI (if (M b).2 < 0 then 2147483647 else (M b).1)), (6, kI b)] μ := by
    refine up_ind (P := fun b => ((M b).2 = -1 ∨ 0 ≤ (M b).2 ∧ 0 ≤ (M b).1 ∧ (M b).1 ≤ 1000000000) → V_X6_leastFrom R 7 [(0, kR 149), (1, kR z), (2, kI n), (3, kI fm), (4, kI s), (5, kI (if (M b).2 < 0 then 2147483647 else (M b).1)), (6, kI b)] μ) ?_ ?_
    · intro b b0 b1 ih hm
      have es : M (b + 1) = if hasB s b = true ∧ ((M b).2 < 0 ∨ F_X6_costBy 149 z fm b s μ < (M b).1) then (F_X6_costBy 149 z fm b s μ, b) else M b := by rw [← hM]; exact mnF_s b0
      rw [es] at ih
      refine vc_X6_leastFrom_7 hz ⟨rr (by omega), rr (by omega), fun c => absurd c (by omega), fun _ => ⟨⟨by omega, by omega⟩, ?_⟩⟩
      unfold F_X10_isIn
      cases hb : hasB s b
      · rw [hb, if_neg (fun q => by simp at q)] at ih
        rw [if_neg (by simp)]
        exact ⟨rr (by omega), fun _ => ih hm, fun c => absurd rfl c⟩
      · have hcs := hc b b0 b1 hb
        rw [if_pos rfl]
        refine ⟨rr (by omega), fun c => absurd c (by omega), fun _ => ⟨⟨rfl, hz, hf, by omega, hs, hb⟩, rr (by by_cases q : (M b).2 < 0 <;> simp only [q, if_true, if_false] <;> omega), rr (by omega), ?_⟩⟩
        rw [hb] at ih
        by_cases q : (M b).2 < 0
        · rw [if_pos ⟨rfl, Or.inl q⟩] at ih
          rw [if_pos q]
          have := ih (Or.inr ⟨b0, hcs.1, hcs.2⟩)
          refine v_eq this ?_ rfl
          have e1 : min 2147483647 (F_X6_costBy 149 z fm b s μ) = F_X6_costBy 149 z fm b s μ := by omega
          show [(0, kR 149), (1, kR z), (2, kI n), (3, kI fm), (4, kI s), (5, kI (if b < 0 then 2147483647 else F_X6_costBy 149 z fm b s μ)), (6, kI (b + 1))] = _
          rw [if_neg (by omega), e1]
        · by_cases q2 : F_X6_costBy 149 z fm b s μ < (M b).1
          · rw [if_pos ⟨rfl, Or.inr q2⟩] at ih
            have := ih (Or.inr ⟨b0, hcs.1, hcs.2⟩)
            refine v_eq this ?_ rfl
            have e1 : min (M b).1 (F_X6_costBy 149 z fm b s μ) = F_X6_costBy 149 z fm b s μ := by omega
            show [(0, kR 149), (1, kR z), (2, kI n), (3, kI fm), (4, kI s), (5, kI (if b < 0 then 2147483647 else F_X6_costBy 149 z fm b s μ)), (6, kI (b + 1))] = _
            rw [if_neg (by omega), if_neg q, e1]
          · rw [if_neg (fun w => w.2.elim q q2)] at ih
            have := ih hm
            refine v_eq this ?_ rfl
            rw [if_neg q]
            have e1 : min (M b).1 (F_X6_costBy 149 z fm b s μ) = (M b).1 := by omega
            rw [e1]
    · intro hm
      exact vc_X6_leastFrom_7 hz ⟨rr (by omega), rr (by omega), fun _ => hR, fun c => absurd (Int.le_refl _) c⟩
  have e0 : M 0 = (0, -1) := by rw [← hM]; rfl
  have := key 0 (by omega) hn.1 (Or.inl (by rw [e0]))
  rw [e0] at this
  exact this
theorem ct_X6_leastFrom : Ct mX6_leastFrom 1 24 0 0 (nrmS S_X6_leastFrom) := by
  refine ct_vm (own := RX6) (by decide +kernel) rfl ?_ ?_
  · intro as μ Q hS
    unfold S_X6_leastFrom at hS
    split at hS
    · exact Nat.le_of_ble_eq_true rfl
    · exact hS.elim
  · intro as μ R hS
    unfold S_X6_leastFrom at hS
    split at hS
    · exact body_X6_leastFrom hS.1 hS.2
    · exact hS.elim
/-! the least cost from a place on: r what a minute costs while a set is still ahead -/
def rcS (W : Int → Int → Int) (r : Int → Int) (n : Int) (F : Int → Int → Int) (fm s : Int) : Int × Int := if s = 0 then (0, -1) else mnF (hasB s) (fun to => W fm to * r s + F to (remS s to)) n
def rcN (W : Int → Int → Int) (r : Int → Int) (n : Int) : Nat → Int → Int → Int
  | 0, _, _ => 0
  | k + 1, fm, s => (rcS W r n (rcN W r n k) fm s).1
def rcV (W : Int → Int → Int) (r : Int → Int) (n fm s : Int) : Int := rcN W r n s.toNat fm s
theorem rcN_st {W : Int → Int → Int} {r : Int → Int} {n : Int} (hn : 0 ≤ n) : ∀ (k : Nat) (fm s : Int), 0 ≤ s → s ≤ k → rcN W r n k fm s = rcN W r n (k + 1) fm s
  | 0, fm, s, s0, hk => by
    have : s = 0 := by omega
    subst this
    rfl
  | k + 1, fm, s, s0, hk => by
    show (rcS W r n (rcN W r n k) fm s).1 = (rcS W r n (rcN W r n (k + 1)) fm s).1
    unfold rcS
    by_cases hs : s = 0
    · rw [if_pos hs, if_pos hs]
    · rw [if_neg hs, if_neg hs]
      congr 1
      refine mnF_congr hn (fun _ _ _ => rfl) (fun b b0 b1 hb => ?_)
      have hr := rem_bd (s := s) (a := b) s0
      have hl := rem_lt s0 b0 hb
      rw [rcN_st hn k b (remS s b) hr.1 (by omega)]
theorem rcN_up {W : Int → Int → Int} {r : Int → Int} {n : Int} (hn : 0 ≤ n) {fm s : Int} (s0 : 0 ≤ s) (j : Nat) : rcN W r n (s.toNat + j) fm s = rcV W r n fm s := by
  induction j with
  | zero => rfl
  | succ j ih => rw [← ih, ← Nat.add_assoc]; exact (rcN_st hn _ fm s s0 (by omega)).symm
theorem rcV_eq {W : Int → Int → Int} {r : Int → Int} {n : Int} (hn : 0 ≤ n) {fm s : Int} (s0 : 0 ≤ s) : rcV W r n fm s = (rcS W r n (rcV W r n) fm s).1 := by
  have h1 := rcN_up (W := W) (r := r) hn (fm := fm) s0 1
  rw [← h1]
  show (rcS W r n (rcN W r n s.toNat) fm s).1 = _
  unfold rcS
  by_cases hs : s = 0
  · rw [if_pos hs, if_pos hs]
  · rw [if_neg hs, if_neg hs]
    congr 1
    refine mnF_congr hn (fun _ _ _ => rfl) (fun b b0 b1 hb => ?_)
    have hr := rem_bd (s := s) (a := b) s0
    have hl := rem_lt s0 b0 hb
    have h2 := rcN_up (W := W) (r := r) hn (fm := b) (s := remS s b) hr.1 (s.toNat - (remS s b).toNat)
    have e : (remS s b).toNat + (s.toNat - (remS s b).toNat) = s.toNat := by omega
    rw [e] at h2
    rw [h2]
theorem rcV_bd {W : Int → Int → Int} {r : Int → Int} {n B : Int} (hn : 0 ≤ n) (hn8 : n ≤ 8) (hB : 0 ≤ B) (hW : ∀ a b : Int, 0 ≤ a → a < n → 0 ≤ b → b < n → 0 ≤ W a b ∧ W a b ≤ 140) (hr : ∀ s : Int, 0 ≤ s → s < 256 → 0 ≤ r s ∧ r s ≤ B) : ∀ (k : Nat) (fm s : Int), 0 ≤ s → s < 256 → s ≤ k → (0 ≤ fm ∧ fm < n) → 0 ≤ rcV W r n fm s ∧ rcV W r n fm s ≤ popc s * (140 * B)
  | 0, fm, s, s0, s1, hk, hf => by
    have : s = 0 := by omega
    subst this
    rw [popc_0, Int.zero_mul]
    show (0 : Int) ≤ 0 ∧ (0 : Int) ≤ 0
    omega
  | k + 1, fm, s, s0, s1, hk, hf => by
    have hpn : 0 ≤ popc s * (140 * B) := Int.mul_nonneg popc_bd.1 (by omega)
    rw [rcV_eq hn s0]
    unfold rcS
    by_cases h0 : s = 0
    · rw [if_pos h0]; exact ⟨Int.le_refl _, hpn⟩
    · rw [if_neg h0]
      rcases mnF_cases (q := hasB s) (f := fun to => W fm to * r s + rcV W r n to (remS s to)) (n := n) hn with ⟨e, _⟩ | ⟨b, hb, e, g1, _⟩
      · rw [e]; exact ⟨Int.le_refl _, hpn⟩
      · rw [e]
        have hb2 := rem_bd (s := s) (a := b) s0
        have hl := rem_lt s0 hb.1 g1
        have ih := rcV_bd hn hn8 hB hW hr k b (remS s b) hb2.1 (by omega) (by omega) hb
        have hp := popc_rem hb.1 (show b < 8 by omega) g1
        have hw := hW fm b hf.1 hf.2 hb.1 hb.2
        have hrs := hr s s0 s1
        have hm := mul_bd hw.1 hw.2 hrs.1 hrs.2
        rw [hp, Int.sub_mul, Int.one_mul] at ih
        show 0 ≤ W fm b * r s + rcV W r n b (remS s b) ∧ W fm b * r s + rcV W r n b (remS s b) ≤ _
        omega
/-- whether from is a place from which the set s of the goal g is still ahead -/
def ahead (g fm s : Int) : Prop := fm = 0 ∨ (hasB g fm = true ∧ hasB s fm = false)
theorem ahead_rem {g fm s : Int} (hs : subS s g) (f0 : 0 ≤ fm) (f1 : fm < 8) (h : hasB s fm = true) : ahead g fm (remS s fm) := Or.inr ⟨hs fm f0 f1 h, by rw [has_rem f0 f0, decide_eq_false (fun q => q rfl), Bool.and_false]⟩
theorem sub_rem {s g a : Int} (hs : subS s g) (a0 : 0 ≤ a) : subS (remS s a) g := fun b b0 b1 hb => by
  rw [has_rem a0 b0] at hb
  exact hs b b0 b1 (Bool.and_eq_true _ _ |>.mp hb).1
theorem has_dif {g s a : Int} (g0 : 0 ≤ g) (g1 : g < 256) (s0 : 0 ≤ s) (s1 : s < 256) : (0 ≤ band g (bxor s (-1)) ∧ band g (bxor s (-1)) < 256) ∧ hasB (band g (bxor s (-1))) a = (hasB g a && !hasB s a) := by
  rw [b_dif g0 (by omega) s0 (by omega)]
  have := dif_le (s := g.toNat) (g := s.toNat)
  refine ⟨by omega, ?_⟩
  unfold hasB
  rw [Int.toNat_natCast, dif_tb]
def CostR (μ : Mem) (W : Int → Int → Int) (n g : Int) : Prop := ∀ s fm : Int, 0 ≤ s → s < 256 → subS s g → 0 ≤ fm → fm < n → ahead g fm s → μ 153 (256 * fm + s) = rcV W (μ 152) n fm s
def P_X6_fillCosts (o z n g : Int) (μ : Mem) : Prop := o = 149 ∧ isArr z 0 64 ∧ z ≠ 153 ∧ z ≠ 152 ∧ (1 ≤ n ∧ n ≤ 8) ∧ (0 ≤ g ∧ g < 256) ∧ (∀ a : Int, 0 ≤ a → a < 8 → hasB g a = true → a < n) ∧ (∀ a b : Int, 0 ≤ a → a < n → 0 ≤ b → b < n → 0 ≤ μ z (8 * a + b) ∧ μ z (8 * a + b) ≤ 140) ∧ ∀ s : Int, 0 ≤ s → s < 256 → 0 ≤ μ 152 s ∧ μ 152 s ≤ 274428
def Q_X6_fillCosts (_ z n g : Int) (μ μ' : Mem) : Prop := CostR μ' (fun a b => μ z (8 * a + b)) n g ∧ ∀ y : Int, y ≠ 153 → μ' y = μ y
def S_X6_fillCosts : S0t := fun as μ Q => match as with
  | [(2, x0), (2, x1), (0, x2), (0, x3)] => P_X6_fillCosts x0 x1 x2 x3 μ ∧ ∀ (μ' : Mem) , Q_X6_fillCosts x0 x1 x2 x3 μ μ'  → Q μ' none
  | _ => False
theorem mono_X6_fillCosts : Mono S_X6_fillCosts := by
  intro as μ Q Q' h hS
  unfold S_X6_fillCosts at hS ⊢
  split at hS
  · exact ⟨hS.1, fun μ' q => h _ _ (hS.2 _ q)⟩
  · exact hS.elim
def iX6_fillCosts : Inf := (kX6_fillCosts, fTX6, pTX6, cTX6, lTX6, sTX6, [(127, 0, 4, 6, S_X6_leastFrom), (110, 1, 2, 0, S_X10_isIn)])
theorem ok_X6_fillCosts : infOK iX6_fillCosts mX6_fillCosts RX6 2 50 := ⟨kkX6_fillCosts, fTX6_ok, pTX6_ok _, cTX6_ok, lTX6_ok, sTX6_ok, c_cons ⟨mX6_leastFrom, 1, 24, ct_X6_leastFrom, mmX6_leastFrom, vvX6_leastFrom, lkX6_127, ⟨by decide, by decide⟩, ⟨_, _, rfl⟩, by decide, mono_X6_leastFrom⟩ (c_cons ⟨mX10_isIn, 0, 0, ct_X10_isIn, mmX10_isIn, stX10_isIn, lkX6_110, ⟨by decide, by decide⟩, mono_X10_isIn⟩ (c_nil))⟩
theorem mt_X6_fillCosts : mtOK [] RX6 2 50 := mt_nil
abbrev V_X6_fillCosts (R : Mem → Option AV → Prop) (pc : Nat) (lc : List (Nat × AV)) (μ : Mem) : Prop := VM mX6_fillCosts RX6 2 50 R pc lc [] μ
set_option maxRecDepth 20000 in
theorem vc_X6_fillCosts_0 {R : Mem → Option AV → Prop} {n g z : Int} {μ : Mem} (hz : isArr z 0 64) (H : V_X6_fillCosts R 3 [(0, kR 149), (1, kR z), (2, kI n), (3, kI g), (4, kI 0)] μ) : V_X6_fillCosts R 0 [(0, kR 149), (1, kR z), (2, kI n), (3, kI g)] μ := by
  refine vm_step2 mt_X6_fillCosts ok_X6_fillCosts [(3, [0, 1, 2, 3, 4]), (29, [0, 1, 2, 3, 4, 5])] 1000 ?_
  show V_X6_fillCosts R 3 [(0, kR 149), (1, kR z), (2, kI n), (3, kI g), (4, kI 0)] μ
  exact H
set_option maxRecDepth 20000 in
theorem vc_X6_fillCosts_3 {R : Mem → Option AV → Prop} {n g s z : Int} {μ : Mem} (hz : isArr z 0 64) (H : r32 s ∧ r32 g ∧ ((g < s) → R μ none) ∧ (¬ (g < s) → r32 s ∧ (((256 : Int) ≤ s) → R μ none) ∧ (¬ ((256 : Int) ≤ s) → r32 (band s (bxor g (-1))) ∧ ((¬ (band s (bxor g (-1))) = 0) → V_X6_fillCosts R 3 [(0, kR 149), (1, kR z), (2, kI n), (3, kI g), (4, kI (s + 1))] μ) ∧ (¬ (¬ (band s (bxor g (-1))) = 0) → V_X6_fillCosts R 29 [(0, kR 149), (1, kR z), (2, kI n), (3, kI g), (4, kI s), (5, kI 0)] μ)))) : V_X6_fillCosts R 3 [(0, kR 149), (1, kR z), (2, kI n), (3, kI g), (4, kI s)] μ := by
  refine vm_step2 mt_X6_fillCosts ok_X6_fillCosts [(3, [0, 1, 2, 3, 4]), (29, [0, 1, 2, 3, 4, 5])] 1000 ?_
  show (r32 s ∧ r32 g) ∧ ((g < s) → R μ none) ∧ (¬ (g < s) → (r32 s ∧ r32 (256 : Int)) ∧ (((256 : Int) ≤ s) → R μ none) ∧ (¬ ((256 : Int) ≤ s) → r32 (band s (bxor g (-1))) ∧ ((¬ (band s (bxor g (-1))) = 0) → V_X6_fillCosts R 3 [(0, kR 149), (1, kR z), (2, kI n), (3, kI g), (4, kI (s + 1))] μ) ∧ (¬ (¬ (band s (bxor g (-1))) = 0) → V_X6_fillCosts R 29 [(0, kR 149), (1, kR z), (2, kI n), (3, kI g), (4, kI s), (5, kI 0)] μ)))
  exact ⟨⟨H.1, H.2.1⟩, fun hc3 => (H.2.2.1 hc3), fun hc3 => ⟨⟨(H.2.2.2 hc3).1, by unfold r32; omega⟩, fun hc2 => ((H.2.2.2 hc3).2.1 hc2), fun hc2 => ⟨((H.2.2.2 hc3).2.2 hc2).1, fun hc1 => (((H.2.2.2 hc3).2.2 hc2).2.1 hc1), fun hc1 => (((H.2.2.2 hc3).2.2 hc2).2.2 hc1)⟩⟩⟩
set_option maxRecDepth 20000 in
theorem vc_X6_fillCosts_29 {R : Mem → Option AV → Prop} {n g s fm z : Int} {μ : Mem} (hz : isArr z 0 64) (H : r32 fm ∧ r32 n ∧ ((n ≤ fm) → V_X6_fillCosts R 3 [(0, kR 149), (1, kR z), (2, kI n), (3, kI g), (4, kI (s + 1))] μ) ∧ (¬ (n ≤ fm) → r32 fm ∧ ((fm = 0) → r32 s ∧ ((¬ s = 0) → P_X6_leastFrom 149 z n fm s μ ∧ (0 ≤ ((fm * 256) + s) ∧ ((fm * 256) + s) < 2048) ∧ V_X6_fillCosts R 29 [(0, kR 149), (1, kR z), (2, kI n), (3, kI g), (4, kI s), (5, kI (fm + 1))] (updm μ 153 ((fm * 256) + s) (F_X6_leastFrom 149 z n fm s μ))) ∧ (¬ (¬ s = 0) → (0 ≤ ((fm * 256) + s) ∧ ((fm * 256) + s) < 2048) ∧ V_X6_fillCosts R 29 [(0, kR 149), (1, kR z), (2, kI n), (3, kI g), (4, kI s), (5, kI (fm + 1))] (updm μ 153 ((fm * 256) + s) 0))) ∧ (¬ (fm = 0) → P_X10_isIn (band g (bxor s (-1))) fm μ ∧ r32 (F_X10_isIn (band g (bxor s (-1))) fm μ) ∧ (((F_X10_isIn (band g (bxor s (-1))) fm μ) = 0) → V_X6_fillCosts R 29 [(0, kR 149), (1, kR z), (2, kI n), (3, kI g), (4, kI s), (5, kI (fm + 1))] μ) ∧ (¬ ((F_X10_isIn (band g (bxor s (-1))) fm μ) = 0) → r32 s ∧ ((¬ s = 0) → P_X6_leastFrom 149 z n fm s μ ∧ (0 ≤ ((fm * 256) + s) ∧ ((fm * 256) + s) < 2048) ∧ V_X6_fillCosts R 29 [(0, kR 149), (1, kR z), (2, kI n), (3, kI g), (4, kI s), (5, kI (fm + 1))] (updm μ 153 ((fm * 256) + s) (F_X6_leastFrom 149 z n fm s μ))) ∧ (¬ (¬ s = 0) → (0 ≤ ((fm * 256) + s) ∧ ((fm * 256) + s) < 2048) ∧ V_X6_fillCosts R 29 [(0, kR 149), (1, kR z), (2, kI n), (3, kI g), (4, kI s), (5, kI (fm + 1))] (updm μ 153 ((fm * 256) + s) 0)))))) : V_X6_fillCosts R 29 [(0, kR 149), (1, kR z), (2, kI n), (3, kI g), (4, kI s), (5, kI fm)] μ := by
  refine vm_step2 mt_X6_fillCosts ok_X6_fillCosts [(3, [0, 1, 2, 3, 4]), (29, [0, 1, 2, 3, 4, 5])] 1000 ?_
  show (r32 fm ∧ r32 n) ∧ ((n ≤ fm) → V_X6_fillCosts R 3 [(0, kR 149), (1, kR z), (2, kI n), (3, kI g), (4, kI (s + 1))] μ) ∧ (¬ (n ≤ fm) → r32 fm ∧ ((fm = 0) → isC 149 6 ∧ r32 s ∧ ((¬ s = 0) → isC 149 6 ∧ P_X6_leastFrom 149 z n fm s μ ∧ inA 153 0 ((fm * 256) + s) ∧ V_X6_fillCosts R 29 [(0, kR 149), (1, kR z), (2, kI n), (3, kI g), (4, kI s), (5, kI (fm + 1))] (updm μ 153 ((fm * 256) + s) (F_X6_leastFrom 149 z n fm s μ))) ∧ (¬ (¬ s = 0) → inA 153 0 ((fm * 256) + s) ∧ V_X6_fillCosts R 29 [(0, kR 149), (1, kR z), (2, kI n), (3, kI g), (4, kI s), (5, kI (fm + 1))] (updm μ 153 ((fm * 256) + s) 0))) ∧ (¬ (fm = 0) → P_X10_isIn (band g (bxor s (-1))) fm μ ∧ r32 (F_X10_isIn (band g (bxor s (-1))) fm μ) ∧ (((F_X10_isIn (band g (bxor s (-1))) fm μ) = 0) → V_X6_fillCosts R 29 [(0, kR 149), (1, kR z), (2, kI n), (3, kI g), (4, kI s), (5, kI (fm + 1))] μ) ∧ (¬ ((F_X10_isIn (band g (bxor s (-1))) fm μ) = 0) → isC 149 6 ∧ r32 s ∧ ((¬ s = 0) → isC 149 6 ∧ P_X6_leastFrom 149 z n fm s μ ∧ inA 153 0 ((fm * 256) + s) ∧ V_X6_fillCosts R 29 [(0, kR 149), (1, kR z), (2, kI n), (3, kI g), (4, kI s), (5, kI (fm + 1))] (updm μ 153 ((fm * 256) + s) (F_X6_leastFrom 149 z n fm s μ))) ∧ (¬ (¬ s = 0) → inA 153 0 ((fm * 256) + s) ∧ V_X6_fillCosts R 29 [(0, kR 149), (1, kR z), (2, kI n), (3, kI g), (4, kI s), (5, kI (fm + 1))] (updm μ 153 ((fm * 256) + s) 0)))))
  exact ⟨⟨H.1, H.2.1⟩, fun hc8 => (H.2.2.1 hc8), fun hc8 => ⟨(H.2.2.2 hc8).1, fun hc7 => ⟨c_149, ⟨((H.2.2.2 hc8).2.1 hc7).1, fun hc4 => ⟨c_149, (((H.2.2.2 hc8).2.1 hc7).2.1 hc4).1, ⟨isArr.in a_153 (((H.2.2.2 hc8).2.1 hc7).2.1 hc4).2.1.1 (((H.2.2.2 hc8).2.1 hc7).2.1 hc4).2.1.2, (((H.2.2.2 hc8).2.1 hc7).2.1 hc4).2.2⟩⟩, fun hc4 => ⟨isArr.in a_153 (((H.2.2.2 hc8).2.1 hc7).2.2 hc4).1.1 (((H.2.2.2 hc8).2.1 hc7).2.2 hc4).1.2, (((H.2.2.2 hc8).2.1 hc7).2.2 hc4).2⟩⟩⟩, fun hc7 => ⟨((H.2.2.2 hc8).2.2 hc7).1, ⟨((H.2.2.2 hc8).2.2 hc7).2.1, fun hc6 => (((H.2.2.2 hc8).2.2 hc7).2.2.1 hc6), fun hc6 => ⟨c_149, ⟨(((H.2.2.2 hc8).2.2 hc7).2.2.2 hc6).1, fun hc5 => ⟨c_149, ((((H.2.2.2 hc8).2.2 hc7).2.2.2 hc6).2.1 hc5).1, ⟨isArr.in a_153 ((((H.2.2.2 hc8).2.2 hc7).2.2.2 hc6).2.1 hc5).2.1.1 ((((H.2.2.2 hc8).2.2 hc7).2.2.2 hc6).2.1 hc5).2.1.2, ((((H.2.2.2 hc8).2.2 hc7).2.2.2 hc6).2.1 hc5).2.2⟩⟩, fun hc5 => ⟨isArr.in a_153 ((((H.2.2.2 hc8).2.2 hc7).2.2.2 hc6).2.2 hc5).1.1 ((((H.2.2.2 hc8).2.2 hc7).2.2.2 hc6).2.2 hc5).1.2, ((((H.2.2.2 hc8).2.2 hc7).2.2.2 hc6).2.2 hc5).2⟩⟩⟩⟩⟩⟩⟩
theorem body_X6_fillCosts {o z n g : Int} {μ : Mem} {R : Mem → Option AV → Prop} (h : P_X6_fillCosts o z n g μ) (hR : ∀ μ' : Mem, Q_X6_fillCosts o z n g μ μ' → R μ' none) : V_X6_fillCosts R 0 [(0, kR o), (1, kR z), (2, kI n), (3, kI g)] μ := by
  obtain ⟨rfl, hz, hz3, hz2, hn, hg, hgn, hW, hr⟩ := h
  refine vc_X6_fillCosts_0 hz ?_
  unfold Q_X6_fillCosts at hR
  generalize hw : (fun a b => μ z (8 * a + b)) = W at hR
  have hwe : ∀ a b, μ z (8 * a + b) = W a b := fun a b => by rw [← hw]
  have cbd : ∀ fm s : Int, 0 ≤ s → s < 256 → 0 ≤ fm → fm < n → 0 ≤ rcV W (μ 152) n fm s ∧ rcV W (μ 152) n fm s ≤ 307359360 := fun fm s s0 s1 f0 f1 => by
    have h1 := rcV_bd (W := W) (r := μ 152) (n := n) (B := 274428) (by omega) hn.2 (by omega) (fun a b a0 a1 b0 b1 => by rw [← hwe]; exact hW a b a0 a1 b0 b1) hr 255 fm s s0 s1 (by omega) ⟨f0, f1⟩
    have h2 := popc_bd (s := s)
    have h3 : popc s * (140 * 274428) ≤ 8 * (140 * 274428) := Int.mul_le_mul_of_nonneg_right h2.2 (by omega)
    omega
  have ps : ∀ s : Int, 0 ≤ s → s ≤ g + 1 → ∀ m : Mem, (∀ y : Int, y ≠ 153 → m y = μ y) → (∀ s' fm : Int, 0 ≤ s' → s' < s → subS s' g → 0 ≤ fm → fm < n → ahead g fm s' → m 153 (256 * fm + s') = rcV W (μ 152) n fm s') → V_X6_fillCosts R 3 [(0, kR 149), (1, kR z), (2, kI n), (3, kI g), (4, kI s)] m := by
    refine up_ind (P := fun s => ∀ m : Mem, (∀ y : Int, y ≠ 153 → m y = μ y) → (∀ s' fm : Int, 0 ≤ s' → s' < s → subS s' g → 0 ≤ fm → fm < n → ahead g fm s' → m 153 (256 * fm + s') = rcV W (μ 152) n fm s') → V_X6_fillCosts R 3 [(0, kR 149), (1, kR z), (2, kI n), (3, kI g), (4, kI s)] m) ?_ ?_
    · intro s s0 s1 ih m hf hc
      have hb := b_sub (s := s) (g := g) s0 (by omega) hg.1 hg.2
      have hbl : 0 ≤ band s (bxor g (-1)) ∧ band s (bxor g (-1)) ≤ s := by
        rw [b_dif s0 (by omega) hg.1 (by omega)]
        have := dif_le (s := s.toNat) (g := g.toNat)
        omega
      refine vc_X6_fillCosts_3 hz ⟨rr (by omega), rr (by omega), fun c => absurd c (by omega), fun _ => ⟨rr (by omega), fun c => absurd c (by omega), fun _ => ⟨rr (by omega), fun c => ?_, fun c => ?_⟩⟩⟩
      · refine ih m hf (fun s' fm x0 x1 h1 f0 f1 h2 => ?_)
        by_cases hs : s' = s
        · subst hs; exact absurd (hb.mpr h1) c
        · exact hc s' fm x0 (by omega) h1 f0 f1 h2
      · have hs : subS s g := hb.mp (by omega)
        -- the places
        have pf : ∀ fm : Int, 0 ≤ fm → fm ≤ n → ∀ m : Mem, (∀ y : Int, y ≠ 153 → m y = μ y) → (∀ s' fm : Int, 0 ≤ s' → s' < s → subS s' g → 0 ≤ fm → fm < n → ahead g fm s' → m 153 (256 * fm + s') = rcV W (μ 152) n fm s') → (∀ fm' : Int, 0 ≤ fm' → fm' < fm → ahead g fm' s → m 153 (256 * fm' + s) = rcV W (μ 152) n fm' s) → V_X6_fillCosts R 29 [(0, kR 149), (1, kR z), (2, kI n), (3, kI g), (4, kI s), (5, kI fm)] m := by
          refine up_ind (P := fun fm => ∀ m : Mem, (∀ y : Int, y ≠ 153 → m y = μ y) → (∀ s' fm : Int, 0 ≤ s' → s' < s → subS s' g → 0 ≤ fm → fm < n → ahead g fm s' → m 153 (256 * fm + s') = rcV W (μ 152) n fm s') → (∀ fm' : Int, 0 ≤ fm' → fm' < fm → ahead g fm' s → m 153 (256 * fm' + s) = rcV W (μ 152) n fm' s) → V_X6_fillCosts R 29 [(0, kR 149), (1, kR z), (2, kI n), (3, kI g), (4, kI s), (5, kI fm)] m) ?_ ?_
          · intro fm f0 f1 ihf m hf hc hcf
            have i1 : fm * 256 + s = 256 * fm + s := by omega
            have nx : ∀ x : Int, x = rcV W (μ 152) n fm s → V_X6_fillCosts R 29 [(0, kR 149), (1, kR z), (2, kI n), (3, kI g), (4, kI s), (5, kI (fm + 1))] (updm m 153 (256 * fm + s) x) := by
              intro x hx
              refine ihf _ (fun y hy => by rw [ru_ne hy]; exact hf y hy) (fun s' fm' x0 x1 h1 y0 y1 h2 => ?_) (fun fm' y0 y1 h2 => ?_)
              · rw [ru_eq, r1_ne (by omega)]; exact hc s' fm' x0 x1 h1 y0 y1 h2
              · rw [ru_eq]
                by_cases he : fm' = fm
                · rw [he, r1_eq, hx]
                · rw [r1_ne (by omega)]; exact hcf fm' y0 (by omega) h2
            have sk : ¬ ahead g fm s → V_X6_fillCosts R 29 [(0, kR 149), (1, kR z), (2, kI n), (3, kI g), (4, kI s), (5, kI (fm + 1))] m := fun hno => ihf m hf hc (fun fm' y0 y1 h2 => by
              by_cases he : fm' = fm
              · subst he; exact absurd h2 hno
              · exact hcf fm' y0 (by omega) h2)
            have e152 : m 152 = μ 152 := hf 152 (by omega)
            have ez : m z = μ z := hf z hz3
            have ecb : ∀ to : Int, 0 ≤ to → to < n → hasB s to = true → F_X6_costBy 149 z fm to s m = W fm to * μ 152 s + rcV W (μ 152) n to (remS s to) := by
              intro to t0 t1 hto
              have hr2 := rem_bd (s := s) (a := to) s0
              have hrl := rem_lt s0 t0 hto
              unfold F_X6_costBy
              rw [ez, e152, hwe, hc (remS s to) to hr2.1 hrl (sub_rem hs t0) t0 t1 (ahead_rem hs t0 (by omega) hto)]
            have write : s ≠ 0 → P_X6_leastFrom 149 z n fm s m ∧ F_X6_leastFrom 149 z n fm s m = rcV W (μ 152) n fm s := by
              intro hs0
              refine ⟨⟨rfl, hz, by omega, by omega, by omega, fun to t0 t1 hto => ?_⟩, ?_⟩
              · rw [ecb to t0 t1 hto]
                have hr2 := rem_bd (s := s) (a := to) s0
                have h1 := cbd to (remS s to) hr2.1 (by omega) t0 t1
                have h2 := hW fm to f0 f1 t0 t1
                rw [hwe] at h2
                have h3 := hr s s0 (by omega)
                have h4 := mul_bd h2.1 h2.2 h3.1 h3.2
                omega
              · rw [rcV_eq (by omega) s0]
                unfold F_X6_leastFrom rcS
                rw [if_neg hs0, mnF_congr (q' := hasB s) (f' := fun to => W fm to * μ 152 s + rcV W (μ 152) n to (remS s to)) (by omega) (fun _ _ _ => rfl) (fun b b0 b1 hb => ecb b b0 b1 hb)]
                have hl := least_ne (show 0 < s by omega) (by omega)
                rcases mnF_cases (q := hasB s) (f := fun to => W fm to * μ 152 s + rcV W (μ 152) n to (remS s to)) (n := n) (by omega) with ⟨_, hx⟩ | ⟨b, hb, e, g1, _⟩
                · have := hx _ hl.1.1 (hgn _ hl.1.1 hl.1.2 (hs _ hl.1.1 hl.1.2 hl.2.1))
                  rw [hl.2.1] at this; cases this
                · rw [e]
                  exact if_neg (show ¬ b < 0 by omega)
            have all : (¬ s = 0 → P_X6_leastFrom 149 z n fm s m ∧ (0 ≤ fm * 256 + s ∧ fm * 256 + s < 2048) ∧ V_X6_fillCosts R 29 [(0, kR 149), (1, kR z), (2, kI n), (3, kI g), (4, kI s), (5, kI (fm + 1))] (updm m 153 (fm * 256 + s) (F_X6_leastFrom 149 z n fm s m))) ∧ (¬ ¬ s = 0 → (0 ≤ fm * 256 + s ∧ fm * 256 + s < 2048) ∧ V_X6_fillCosts R 29 [(0, kR 149), (1, kR z), (2, kI n), (3, kI g), (4, kI s), (5, kI (fm + 1))] (updm m 153 (fm * 256 + s) 0)) := by
              refine ⟨fun c => ?_, fun c => ?_⟩
              · obtain ⟨w1, w2⟩ := write c
                refine ⟨w1, by omega, ?_⟩
                rw [i1]
                exact nx _ w2
              · have hs0 : s = 0 := by omega
                refine ⟨by omega, ?_⟩
                rw [i1]
                refine nx 0 ?_
                rw [hs0]
                rfl
            refine vc_X6_fillCosts_29 hz ⟨rr (by omega), rr (by omega), fun c => absurd c (by omega), fun _ => ⟨rr (by omega), fun c => ⟨rr (by omega), all.1, all.2⟩, fun c => ?_⟩⟩
            have hd := has_dif (a := fm) hg.1 hg.2 s0 (show s < 256 by omega)
            refine ⟨⟨by omega, by omega⟩, ?_⟩
            unfold F_X10_isIn
            rw [hd.2]
            by_cases hy : (hasB g fm && !hasB s fm) = true
            · rw [if_pos hy]
              exact ⟨rr (by omega), fun c => absurd c (by omega), fun _ => ⟨rr (by omega), all.1, all.2⟩⟩
            · rw [if_neg hy]
              refine ⟨rr (by omega), fun _ => sk (fun q => ?_), fun c => absurd rfl c⟩
              rcases q with q | q
              · exact c q
              · rw [q.1, q.2] at hy; exact hy rfl
          · intro m hf hc hcf
            refine vc_X6_fillCosts_29 hz ⟨rr (by omega), rr (by omega), fun _ => ih m hf (fun s' fm x0 x1 h1 f0 f1 h2 => ?_), fun c => absurd (Int.le_refl _) c⟩
            by_cases he : s' = s
            · subst he; exact hcf fm f0 f1 h2
            · exact hc s' fm x0 (by omega) h1 f0 f1 h2
        exact pf 0 (by omega) (by omega) m hf hc (fun fm' y0 y1 _ => absurd y0 (by omega))
    · intro m hf hc
      refine vc_X6_fillCosts_3 hz ⟨rr (by omega), rr (by omega), fun _ => hR m ⟨fun s fm s0 s1 hs f0 f1 ha => ?_, hf⟩, fun c => absurd (show g < g + 1 by omega) c⟩
      rw [hf 152 (by omega)]
      have hle : s ≤ g := by
        have hb := (b_sub s0 s1 hg.1 hg.2).mpr hs
        rw [b_dif s0 (by omega) hg.1 (by omega)] at hb
        have h1 : dif s.toNat g.toNat = 0 := by omega
        have h2 : s.toNat = s.toNat &&& g.toNat := by
          apply Nat.eq_of_testBit_eq
          intro j
          have h3 := dif_tb (s := s.toNat) (g := g.toNat) (j := j)
          rw [h1, Nat.zero_testBit] at h3
          rw [Nat.testBit_and]
          cases q : s.toNat.testBit j <;> cases q2 : g.toNat.testBit j <;> rw [q, q2] at h3 <;> simp_all
        have h4 : s.toNat &&& g.toNat ≤ g.toNat := Nat.and_le_right
        omega
      exact hc s fm s0 (by omega) hs f0 f1 ha
  exact ps 0 (by omega) (by omega) μ (fun _ _ => rfl) (fun s' fm x0 x1 => absurd x0 (by omega))
theorem ct_X6_fillCosts : Ct mX6_fillCosts 2 50 0 0 (nrmS S_X6_fillCosts) := by
  refine ct_vm (own := RX6) (by decide +kernel) rfl ?_ ?_
  · intro as μ Q hS
    unfold S_X6_fillCosts at hS
    split at hS
    · exact Nat.le_of_ble_eq_true rfl
    · exact hS.elim
  · intro as μ R hS
    unfold S_X6_fillCosts at hS
    split at hS
    · exact body_X6_fillCosts hS.1 hS.2
    · exact hS.elim
