/-- how many places a set has -/
def popc (s : Int) : Int := sm (fun a => if hasB s a then 1 else 0) 8
def P_J6_bitCount_0f7a4 (s : Int) (_ : Mem) : Prop := 0 ≤ s ∧ s < 256
def F_J6_bitCount_0f7a4 (s : Int) (_ : Mem) : Int := popc s
def S_J6_bitCount_0f7a4 : S0t := fun as μ Q => match as with
  | [(0, x0)] => P_J6_bitCount_0f7a4 x0 μ ∧ Q μ (some (kI (F_J6_bitCount_0f7a4 x0 μ)))
  | _ => False
theorem mono_J6_bitCount_0f7a4 : Mono S_J6_bitCount_0f7a4 := by
  intro as μ Q Q' h hS
  unfold S_J6_bitCount_0f7a4 at hS ⊢
  split at hS
  · exact ⟨hS.1, h _ _ hS.2⟩
  · exact hS.elim
def iJ6_bitCount_0f7a4 : Inf := (kJ6_bitCount_0f7a4, fTJ6, pTJ6, cTJ6, lTJ6, sTJ6, [])
theorem ok_J6_bitCount_0f7a4 : infOK iJ6_bitCount_0f7a4 mJ6_bitCount_0f7a4 RJ6 0 0 := ⟨kkJ6_bitCount_0f7a4, fTJ6_ok, pTJ6_ok _, cTJ6_ok, lTJ6_ok, sTJ6_ok, c_nil⟩
theorem mt_J6_bitCount_0f7a4 : mtOK [] RJ6 0 0 := mt_nil
abbrev V_J6_bitCount_0f7a4 (R : Mem → Option AV → Prop) (pc : Nat) (lc : List (Nat × AV)) (μ : Mem) : Prop := VM mJ6_bitCount_0f7a4 RJ6 0 0 R pc lc [] μ
set_option maxRecDepth 20000 in
theorem vc_J6_bitCount_0f7a4_0 {R : Mem → Option AV → Prop} {s : Int} {μ : Mem} (H : R μ (some (kI (band (((band (((band (s - (band (bushr s 1) 1431655765)) 858993459) + (band (bushr (s - (band (bushr s 1) 1431655765)) 2) 858993459)) + (bushr ((band (s - (band (bushr s 1) 1431655765)) 858993459) + (band (bushr (s - (band (bushr s 1) 1431655765)) 2) 858993459)) 4)) 252645135) + (bushr (band (((band (s - (band (bushr s 1) 1431655765)) 858993459) + (band (bushr (s - (band (bushr s 1) 1431655765)) 2) 858993459)) + (bushr ((band (s - (band (bushr s 1) 1431655765)) 858993459) + (band (bushr (s - (band (bushr s 1) 1431655765)) 2) 858993459)) 4)) 252645135) 8)) + (bushr ((band (((band (s - (band (bushr s 1) 1431655765)) 858993459) + (band (bushr (s - (band (bushr s 1) 1431655765)) 2) 858993459)) + (bushr ((band (s - (band (bushr s 1) 1431655765)) 858993459) + (band (bushr (s - (band (bushr s 1) 1431655765)) 2) 858993459)) 4)) 252645135) + (bushr (band (((band (s - (band (bushr s 1) 1431655765)) 858993459) + (band (bushr (s - (band (bushr s 1) 1431655765)) 2) 858993459)) + (bushr ((band (s - (band (bushr s 1) 1431655765)) 858993459) + (band (bushr (s - (band (bushr s 1) 1431655765)) 2) 858993459)) 4)) 252645135) 8)) 16)) 63)))) : V_J6_bitCount_0f7a4 R 0 [(0, kI s)] μ := by
  refine vm_step2 mt_J6_bitCount_0f7a4 ok_J6_bitCount_0f7a4 [] 1000 ?_
  show R μ (some (kI (band (((band (((band (s - (band (bushr s 1) 1431655765)) 858993459) + (band (bushr (s - (band (bushr s 1) 1431655765)) 2) 858993459)) + (bushr ((band (s - (band (bushr s 1) 1431655765)) 858993459) + (band (bushr (s - (band (bushr s 1) 1431655765)) 2) 858993459)) 4)) 252645135) + (bushr (band (((band (s - (band (bushr s 1) 1431655765)) 858993459) + (band (bushr (s - (band (bushr s 1) 1431655765)) 2) 858993459)) + (bushr ((band (s - (band (bushr s 1) 1431655765)) 858993459) + (band (bushr (s - (band (bushr s 1) 1431655765)) 2) 858993459)) 4)) 252645135) 8)) + (bushr ((band (((band (s - (band (bushr s 1) 1431655765)) 858993459) + (band (bushr (s - (band (bushr s 1) 1431655765)) 2) 858993459)) + (bushr ((band (s - (band (bushr s 1) 1431655765)) 858993459) + (band (bushr (s - (band (bushr s 1) 1431655765)) 2) 858993459)) 4)) 252645135) + (bushr (band (((band (s - (band (bushr s 1) 1431655765)) 858993459) + (band (bushr (s - (band (bushr s 1) 1431655765)) 2) 858993459)) + (bushr ((band (s - (band (bushr s 1) 1431655765)) 858993459) + (band (bushr (s - (band (bushr s 1) 1431655765)) 2) 858993459)) 4)) 252645135) 8)) 16)) 63)))
  exact H
theorem body_J6_bitCount_0f7a4 {s : Int} {μ : Mem} {R : Mem → Option AV → Prop} (h : P_J6_bitCount_0f7a4 s μ) (hR : R μ (some (kI (F_J6_bitCount_0f7a4 s μ)))) : V_J6_bitCount_0f7a4 R 0 [(0, kI s)] μ := by
  refine vc_J6_bitCount_0f7a4_0 (r_eq hR ?_)
  have key : ∀ n : Nat, n < 256 → popc (n : Int) = (band (((band (((band ((n : Int) - (band (bushr (n : Int) 1) 1431655765)) 858993459) + (band (bushr ((n : Int) - (band (bushr (n : Int) 1) 1431655765)) 2) 858993459)) + (bushr ((band ((n : Int) - (band (bushr (n : Int) 1) 1431655765)) 858993459) + (band (bushr ((n : Int) - (band (bushr (n : Int) 1) 1431655765)) 2) 858993459)) 4)) 252645135) + (bushr (band (((band ((n : Int) - (band (bushr (n : Int) 1) 1431655765)) 858993459) + (band (bushr ((n : Int) - (band (bushr (n : Int) 1) 1431655765)) 2) 858993459)) + (bushr ((band ((n : Int) - (band (bushr (n : Int) 1) 1431655765)) 858993459) + (band (bushr ((n : Int) - (band (bushr (n : Int) 1) 1431655765)) 2) 858993459)) 4)) 252645135) 8)) + (bushr ((band (((band ((n : Int) - (band (bushr (n : Int) 1) 1431655765)) 858993459) + (band (bushr ((n : Int) - (band (bushr (n : Int) 1) 1431655765)) 2) 858993459)) + (bushr ((band ((n : Int) - (band (bushr (n : Int) 1) 1431655765)) 858993459) + (band (bushr ((n : Int) - (band (bushr (n : Int) 1) 1431655765)) 2) 858993459)) 4)) 252645135) + (bushr (band (((band ((n : Int) - (band (bushr (n : Int) 1) 1431655765)) 858993459) + (band (bushr ((n : Int) - (band (bushr (n : Int) 1) 1431655765)) 2) 858993459)) + (bushr ((band ((n : Int) - (band (bushr (n : Int) 1) 1431655765)) 858993459) + (band (bushr ((n : Int) - (band (bushr (n : Int) 1) 1431655765)) 2) 858993459)) 4)) 252645135) 8)) 16)) 63) := by decide +kernel
  have := key s.toNat (by have := h; unfold P_J6_bitCount_0f7a4 at this; omega)
  have h0 : ((s.toNat : Nat) : Int) = s := Int.toNat_of_nonneg h.1
  rw [h0] at this
  exact this
theorem ct_J6_bitCount_0f7a4 : Ct mJ6_bitCount_0f7a4 0 0 0 0 (nrmS S_J6_bitCount_0f7a4) := by
  refine ct_vm (own := RJ6) (by decide +kernel) rfl ?_ ?_
  · intro as μ Q hS
    unfold S_J6_bitCount_0f7a4 at hS
    split at hS
    · exact Nat.le_of_ble_eq_true rfl
    · exact hS.elim
  · intro as μ R hS
    unfold S_J6_bitCount_0f7a4 at hS
    split at hS
    · exact body_J6_bitCount_0f7a4 hS.1 hS.2
    · exact hS.elim
def P_J7_fill_53178 (a _ : Int) (_ : Mem) : Prop := ∃ N : Nat, isArr a 0 N ∧ N ≤ 5160
def M_J7_fill_53178 (a w : Int) (μ : Mem) : Mem := seto μ a (fun j => if 0 ≤ j ∧ j < ((LAY a.toNat).2 : Int) then w else μ a j)
def S_J7_fill_53178 : S0t := fun as μ Q => match as with
  | [(2, x0), (0, x1)] => P_J7_fill_53178 x0 x1 μ ∧ Q (M_J7_fill_53178 x0 x1 μ) none
  | _ => False
theorem mono_J7_fill_53178 : Mono S_J7_fill_53178 := by
  intro as μ Q Q' h hS
  unfold S_J7_fill_53178 at hS ⊢
  split at hS
  · exact ⟨hS.1, h _ _ hS.2⟩
  · exact hS.elim
def iJ7_fill_53178 : Inf := (kJ7_fill_53178, fTJ7, pTJ7, cTJ7, lTJ7, sTJ7, [])
theorem ok_J7_fill_53178 : infOK iJ7_fill_53178 mJ7_fill_53178 RJ7 0 0 := ⟨kkJ7_fill_53178, fTJ7_ok, pTJ7_ok _, cTJ7_ok, lTJ7_ok, sTJ7_ok, c_nil⟩
theorem mt_J7_fill_53178 : mtOK [] RJ7 0 0 := mt_nil
abbrev V_J7_fill_53178 (R : Mem → Option AV → Prop) (pc : Nat) (lc : List (Nat × AV)) (μ : Mem) : Prop := VM mJ7_fill_53178 RJ7 0 0 R pc lc [] μ
set_option maxRecDepth 20000 in
theorem vc_J7_fill_53178_0 {R : Mem → Option AV → Prop} {w a : Int} {μ : Mem} {N : Nat} (ha : isArr a 0 N) (H : V_J7_fill_53178 R 5 [(0, kR a), (1, kI w), (2, kI 0), (3, kI N)] μ) : V_J7_fill_53178 R 0 [(0, kR a), (1, kI w)] μ := by
  refine vm_step2 mt_J7_fill_53178 ok_J7_fill_53178 [(5, [0, 1, 2, 3])] 1000 ?_
  show ((0 ≤ a ∧ a < 232) ∧ (LAY a.toNat).1 ≤ 3) ∧ V_J7_fill_53178 R 5 [(0, kR a), (1, kI w), (2, kI 0), (3, kI (((LAY a.toNat).2 : Int)))] μ
  exact ⟨⟨ha.1, by rw [ha.2]; exact Nat.zero_le 3⟩, by rw [ha.2]; exact H⟩
set_option maxRecDepth 20000 in
theorem vc_J7_fill_53178_5 {R : Mem → Option AV → Prop} {w i v3 a : Int} {μ : Mem} {N : Nat} (ha : isArr a 0 N) (H : r32 i ∧ r32 v3 ∧ ((v3 ≤ i) → R μ none) ∧ (¬ (v3 ≤ i) → (0 ≤ i ∧ i < N) ∧ V_J7_fill_53178 R 5 [(0, kR a), (1, kI w), (2, kI (i + 1)), (3, kI v3)] (updm μ a i w))) : V_J7_fill_53178 R 5 [(0, kR a), (1, kI w), (2, kI i), (3, kI v3)] μ := by
  refine vm_step2 mt_J7_fill_53178 ok_J7_fill_53178 [(5, [0, 1, 2, 3])] 1000 ?_
  show (r32 i ∧ r32 v3) ∧ ((v3 ≤ i) → R μ none) ∧ (¬ (v3 ≤ i) → inA a 0 i ∧ V_J7_fill_53178 R 5 [(0, kR a), (1, kI w), (2, kI (i + 1)), (3, kI v3)] (updm μ a i w))
  exact ⟨⟨H.1, H.2.1⟩, fun hc1 => (H.2.2.1 hc1), fun hc1 => ⟨isArr.in ha (H.2.2.2 hc1).1.1 (H.2.2.2 hc1).1.2, (H.2.2.2 hc1).2⟩⟩
theorem body_J7_fill_53178 {a w : Int} {μ : Mem} {R : Mem → Option AV → Prop} (h : P_J7_fill_53178 a w μ) (hR : R (M_J7_fill_53178 a w μ) none) : V_J7_fill_53178 R 0 [(0, kR a), (1, kI w)] μ := by
  obtain ⟨N, ha, hN⟩ := h
  refine vc_J7_fill_53178_0 ha ?_
  have key := up_ind (P := fun i => V_J7_fill_53178 R 5 [(0, kR a), (1, kI w), (2, kI i), (3, kI N)] (seto μ a (fun j => if 0 ≤ j ∧ j < i then w else μ a j))) (lo := 0) (hi := N) ?_ ?_
  · refine v_eq (key 0 (by omega) (by omega)) rfl ?_
    funext q
    unfold seto
    by_cases hq : q = a
    · subst hq
      rw [if_pos rfl]
      funext j
      rw [if_neg (by omega)]
    · rw [if_neg hq]
  · intro i h0 h1 ih
    refine vc_J7_fill_53178_5 ha ⟨rr (by omega), rr (by omega), fun c => absurd c (by omega), fun _ => ⟨⟨h0, h1⟩, v_eq ih rfl ?_⟩⟩
    funext q
    unfold seto updm upd1
    by_cases hq : q = a
    · subst hq
      simp only [if_pos]
      funext j
      by_cases hj : j = i
      · subst hj
        rw [if_pos (by omega), if_pos rfl]
      · rw [if_neg hj]
        by_cases hj2 : 0 ≤ j ∧ j < i
        · rw [if_pos (by omega), if_pos hj2]
        · rw [if_neg (by omega), if_neg hj2]
    · simp only [if_neg hq]
  · refine vc_J7_fill_53178_5 ha ⟨rr (by omega), rr (by omega), fun _ => ?_, fun c => absurd (Int.le_refl _) c⟩
    have e : M_J7_fill_53178 a w μ = seto μ a (fun j => if 0 ≤ j ∧ j < (N : Int) then w else μ a j) := by
      unfold M_J7_fill_53178
      rw [ha.2]
    rw [e] at hR
    exact hR
theorem ct_J7_fill_53178 : Ct mJ7_fill_53178 0 0 0 0 (nrmS S_J7_fill_53178) := by
  refine ct_vm (own := RJ7) (by decide +kernel) rfl ?_ ?_
  · intro as μ Q hS
    unfold S_J7_fill_53178 at hS
    split at hS
    · exact Nat.le_of_ble_eq_true rfl
    · exact hS.elim
  · intro as μ R hS
    unfold S_J7_fill_53178 at hS
    split at hS
    · exact body_J7_fill_53178 hS.1 hS.2
    · exact hS.elim
def P_X10_isIn (s a : Int) (_ : Mem) : Prop := (0 ≤ s ∧ s < 2147483648) ∧ 0 ≤ a ∧ a < 31
def F_X10_isIn (s a : Int) (_ : Mem) : Int := if hasB s a = true then 1 else 0
def S_X10_isIn : S0t := fun as μ Q => match as with
  | [(0, x0), (0, x1)] => P_X10_isIn x0 x1 μ ∧ Q μ (some (kI (F_X10_isIn x0 x1 μ)))
  | _ => False
theorem mono_X10_isIn : Mono S_X10_isIn := by
  intro as μ Q Q' h hS
  unfold S_X10_isIn at hS ⊢
  split at hS
  · exact ⟨hS.1, h _ _ hS.2⟩
  · exact hS.elim
def iX10_isIn : Inf := (kX10_isIn, fTX10, pTX10, cTX10, lTX10, sTX10, [])
theorem ok_X10_isIn : infOK iX10_isIn mX10_isIn RX10 0 0 := ⟨kkX10_isIn, fTX10_ok, pTX10_ok _, cTX10_ok, lTX10_ok, sTX10_ok, c_nil⟩
theorem mt_X10_isIn : mtOK [] RX10 0 0 := mt_nil
abbrev V_X10_isIn (R : Mem → Option AV → Prop) (pc : Nat) (lc : List (Nat × AV)) (μ : Mem) : Prop := VM mX10_isIn RX10 0 0 R pc lc [] μ
set_option maxRecDepth 20000 in
theorem vc_X10_isIn_0 {R : Mem → Option AV → Prop} {s a : Int} {μ : Mem} (H : r32 (band (bshr s a) 1) ∧ (((band (bshr s a) 1) = 0) → R μ (some (kI 0))) ∧ (¬ ((band (bshr s a) 1) = 0) → R μ (some (kI 1)))) : V_X10_isIn R 0 [(0, kI s), (1, kI a)] μ := by
  refine vm_step2 mt_X10_isIn ok_X10_isIn [] 1000 ?_
  show r32 (band (bshr s a) 1) ∧ (((band (bshr s a) 1) = 0) → (0 ≤ (0 : Int) ∧ (0 : Int) ≤ 1) ∧ R μ (some (kI 0))) ∧ (¬ ((band (bshr s a) 1) = 0) → (0 ≤ (1 : Int) ∧ (1 : Int) ≤ 1) ∧ R μ (some (kI 1)))
  exact ⟨H.1, fun hc1 => ⟨⟨by omega, by omega⟩, (H.2.1 hc1)⟩, fun hc1 => ⟨⟨by omega, by omega⟩, (H.2.2 hc1)⟩⟩
theorem body_X10_isIn {s a : Int} {μ : Mem} {R : Mem → Option AV → Prop} (h : P_X10_isIn s a μ) (hR : R μ (some (kI (F_X10_isIn s a μ)))) : V_X10_isIn R 0 [(0, kI s), (1, kI a)] μ := by
  have e := b_tst h.1.1 h.1.2 h.2.1 h.2.2
  unfold F_X10_isIn at hR
  refine vc_X10_isIn_0 ?_
  rw [e]
  by_cases hb : hasB s a = true
  · rw [if_pos hb] at hR ⊢
    exact ⟨rr (by omega), fun c => absurd c (by omega), fun _ => hR⟩
  · rw [if_neg hb] at hR ⊢
    exact ⟨rr (by omega), fun _ => hR, fun c => absurd rfl c⟩
theorem ct_X10_isIn : Ct mX10_isIn 0 0 0 0 (nrmS S_X10_isIn) := by
  refine ct_vm (own := RX10) (by decide +kernel) rfl ?_ ?_
  · intro as μ Q hS
    unfold S_X10_isIn at hS
    split at hS
    · exact Nat.le_of_ble_eq_true rfl
    · exact hS.elim
  · intro as μ R hS
    unfold S_X10_isIn at hS
    split at hS
    · exact body_X10_isIn hS.1 hS.2
    · exact hS.elim
/-- the least place of a set; 0 of none -/
def leastB (s : Int) : Int := fold (fun r a => if r < 0 ∧ hasB s a = true then a else r) (-1) 8
def P_X10_leastOf (s : Int) (_ : Mem) : Prop := 0 ≤ s ∧ s < 256
def F_X10_leastOf (s : Int) (_ : Mem) : Int := max 0 (leastB s)
def S_X10_leastOf : S0t := fun as μ Q => match as with
  | [(0, x0)] => P_X10_leastOf x0 μ ∧ Q μ (some (kI (F_X10_leastOf x0 μ)))
  | _ => False
theorem mono_X10_leastOf : Mono S_X10_leastOf := by
  intro as μ Q Q' h hS
  unfold S_X10_leastOf at hS ⊢
  split at hS
  · exact ⟨hS.1, h _ _ hS.2⟩
  · exact hS.elim
def iX10_leastOf : Inf := (kX10_leastOf, fTX10, pTX10, cTX10, lTX10, sTX10, [(385, 1, 2, 0, S_X10_isIn)])
theorem ok_X10_leastOf : infOK iX10_leastOf mX10_leastOf RX10 1 21 := ⟨kkX10_leastOf, fTX10_ok, pTX10_ok _, cTX10_ok, lTX10_ok, sTX10_ok, c_cons ⟨mX10_isIn, 0, 0, ct_X10_isIn, mmX10_isIn, stX10_isIn, lkX10_385, ⟨by decide, by decide⟩, mono_X10_isIn⟩ (c_nil)⟩
theorem mt_X10_leastOf : mtOK [] RX10 1 21 := mt_nil
abbrev V_X10_leastOf (R : Mem → Option AV → Prop) (pc : Nat) (lc : List (Nat × AV)) (μ : Mem) : Prop := VM mX10_leastOf RX10 1 21 R pc lc [] μ
set_option maxRecDepth 20000 in
theorem vc_X10_leastOf_0 {R : Mem → Option AV → Prop} {s : Int} {μ : Mem} (H : V_X10_leastOf R 2 [(0, kI s), (1, kI 0)] μ) : V_X10_leastOf R 0 [(0, kI s)] μ := by
  refine vm_step2 mt_X10_leastOf ok_X10_leastOf [(2, [0, 1])] 1000 ?_
  show V_X10_leastOf R 2 [(0, kI s), (1, kI 0)] μ
  exact H
set_option maxRecDepth 20000 in
theorem vc_X10_leastOf_2 {R : Mem → Option AV → Prop} {s a : Int} {μ : Mem} (H : r32 a ∧ (((8 : Int) ≤ a) → R μ (some (kI 0))) ∧ (¬ ((8 : Int) ≤ a) → P_X10_isIn s a μ ∧ r32 (F_X10_isIn s a μ) ∧ (((F_X10_isIn s a μ) = 0) → V_X10_leastOf R 2 [(0, kI s), (1, kI (a + 1))] μ) ∧ (¬ ((F_X10_isIn s a μ) = 0) → R μ (some (kI a))))) : V_X10_leastOf R 2 [(0, kI s), (1, kI a)] μ := by
  refine vm_step2 mt_X10_leastOf ok_X10_leastOf [(2, [0, 1])] 1000 ?_
  show (r32 a ∧ r32 (8 : Int)) ∧ (((8 : Int) ≤ a) → R μ (some (kI 0))) ∧ (¬ ((8 : Int) ≤ a) → P_X10_isIn s a μ ∧ r32 (F_X10_isIn s a μ) ∧ (((F_X10_isIn s a μ) = 0) → V_X10_leastOf R 2 [(0, kI s), (1, kI (a + 1))] μ) ∧ (¬ ((F_X10_isIn s a μ) = 0) → R μ (some (kI a))))
  exact ⟨⟨H.1, by unfold r32; omega⟩, fun hc2 => (H.2.1 hc2), fun hc2 => ⟨(H.2.2 hc2).1, ⟨(H.2.2 hc2).2.1, fun hc1 => ((H.2.2 hc2).2.2.1 hc1), fun hc1 => ((H.2.2 hc2).2.2.2 hc1)⟩⟩⟩
theorem body_X10_leastOf {s : Int} {μ : Mem} {R : Mem → Option AV → Prop} (h : P_X10_leastOf s μ) (hR : R μ (some (kI (F_X10_leastOf s μ)))) : V_X10_leastOf R 0 [(0, kI s)] μ := by
  unfold P_X10_leastOf at h
  refine vc_X10_leastOf_0 ?_
  have hge : ∀ (n : Int) (a : Int), 0 ≤ a → fold (fun r a => if r < 0 ∧ hasB s a = true then a else r) (-1) a = a → hasB s a = hasB s a → True := fun _ _ _ _ _ => trivial
  have stay : ∀ a : Int, 0 ≤ a → a ≤ 8 → 0 ≤ fold (fun r a => if r < 0 ∧ hasB s a = true then a else r) (-1) a → leastB s = fold (fun r a => if r < 0 ∧ hasB s a = true then a else r) (-1) a := by
    intro a h0 h1
    refine up_ind (P := fun a => 0 ≤ fold (fun r a => if r < 0 ∧ hasB s a = true then a else r) (-1) a → leastB s = fold (fun r a => if r < 0 ∧ hasB s a = true then a else r) (-1) a) (lo := 0) (hi := 8) ?_ (fun _ => rfl) a h0 h1
    intro i i0 i1 ih hi
    rw [fold_s i0, if_neg (by omega)] at ih
    exact ih hi
  have key := up_ind (P := fun a => fold (fun r a => if r < 0 ∧ hasB s a = true then a else r) (-1) a = -1 → V_X10_leastOf R 2 [(0, kI s), (1, kI a)] μ) (lo := 0) (hi := 8) ?_ ?_
  · exact key 0 (by omega) (by omega) rfl
  · intro a h0 h1 ih hm
    have es : fold (fun r a => if r < 0 ∧ hasB s a = true then a else r) (-1) (a + 1) = if hasB s a = true then a else -1 := by
      rw [fold_s h0, hm]
      by_cases hb : hasB s a = true
      · rw [if_pos ⟨by omega, hb⟩, if_pos hb]
      · rw [if_neg (fun q => hb q.2), if_neg hb]
    refine vc_X10_leastOf_2 ⟨rr (by omega), fun c => absurd c (by omega), fun _ => ⟨⟨⟨h.1, by omega⟩, h0, by omega⟩, ?_⟩⟩
    unfold F_X10_isIn
    by_cases hb : hasB s a = true
    · rw [if_pos hb]
      refine ⟨rr (by omega), fun c => absurd c (by omega), fun _ => r_eq hR ?_⟩
      rw [if_pos hb] at es
      have := stay (a + 1) (by omega) (by omega) (by rw [es]; exact h0)
      unfold F_X10_leastOf
      rw [this, es]
      omega
    · rw [if_neg hb]
      refine ⟨rr (by omega), fun _ => ih (by rw [es, if_neg hb]), fun c => absurd rfl c⟩
  · intro hm
    refine vc_X10_leastOf_2 ⟨rr (by omega), fun _ => r_eq hR ?_, fun c => absurd (Int.le_refl _) c⟩
    unfold F_X10_leastOf
    have : leastB s = -1 := hm
    rw [this]
    rfl
theorem ct_X10_leastOf : Ct mX10_leastOf 1 21 0 0 (nrmS S_X10_leastOf) := by
  refine ct_vm (own := RX10) (by decide +kernel) rfl ?_ ?_
  · intro as μ Q hS
    unfold S_X10_leastOf at hS
    split at hS
    · exact Nat.le_of_ble_eq_true rfl
    · exact hS.elim
  · intro as μ R hS
    unfold S_X10_leastOf at hS
    split at hS
    · exact body_X10_leastOf hS.1 hS.2
    · exact hS.elim
