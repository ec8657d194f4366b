theorem T_ways' {t : Int} (h : isT t) : isArr (t + 2) 0 64 := T_ways h
def P_X6_firstOf (o t fm s : Int) (μ : Mem) : Prop := o = 149 ∧ TB μ t ∧ (0 ≤ fm ∧ fm < 8) ∧ (0 ≤ s ∧ s < 256) ∧ r32 (μ 153 (256 * fm + s)) ∧ ∀ to : Int, 0 ≤ to → to < tv μ t 0 0 → hasB s to = true → r32 (F_X6_costBy 149 (t + 2) fm to s μ)
def F_X6_firstOf (_ t fm s : Int) (μ : Mem) : Int := max 0 (frst (fun to => hasB s to && decide (F_X6_costBy 149 (t + 2) fm to s μ = μ 153 (256 * fm + s))) (tv μ t 0 0))
def S_X6_firstOf : S0t := fun as μ Q => match as with
  | [(2, x0), (2, x1), (0, x2), (0, x3)] => P_X6_firstOf x0 x1 x2 x3 μ ∧ Q μ (some (kI (F_X6_firstOf x0 x1 x2 x3 μ)))
  | _ => False
theorem mono_X6_firstOf : Mono S_X6_firstOf := by
  intro as μ Q Q' h hS
  unfold S_X6_firstOf at hS ⊢
  split at hS
  · exact ⟨hS.1, h _ _ hS.2⟩
  · exact hS.elim
def iX6_firstOf : Inf := (kX6_firstOf, fTX6, pTX6, cTX6, lTX6, sTX6, [(110, 1, 2, 0, S_X10_isIn), (132, 0, 4, 6, S_X6_costBy)])
theorem ok_X6_firstOf : infOK iX6_firstOf mX6_firstOf RX6 1 24 := ⟨kkX6_firstOf, fTX6_ok, pTX6_ok _, cTX6_ok, lTX6_ok, sTX6_ok, c_cons ⟨mX10_isIn, 0, 0, ct_X10_isIn, mmX10_isIn, stX10_isIn, lkX6_110, ⟨by decide, by decide⟩, mono_X10_isIn⟩ (c_cons ⟨mX6_costBy, 0, 0, ct_X6_costBy, mmX6_costBy, vvX6_costBy, lkX6_132, ⟨by decide, by decide⟩, ⟨_, _, rfl⟩, by decide, mono_X6_costBy⟩ (c_nil))⟩
theorem mt_X6_firstOf : mtOK [] RX6 1 24 := mt_nil
abbrev V_X6_firstOf (R : Mem → Option AV → Prop) (pc : Nat) (lc : List (Nat × AV)) (μ : Mem) : Prop := VM mX6_firstOf RX6 1 24 R pc lc [] μ
set_option maxRecDepth 20000 in
theorem vc_X6_firstOf_0 {R : Mem → Option AV → Prop} {fm s t : Int} {μ : Mem} (ht : isT t) (H : V_X6_firstOf R 3 [(0, kR 149), (1, kR t), (2, kI fm), (3, kI s), (4, kI 0)] μ) : V_X6_firstOf R 0 [(0, kR 149), (1, kR t), (2, kI fm), (3, kI s)] μ := by
  refine vm_step2 mt_X6_firstOf ok_X6_firstOf [(3, [0, 1, 2, 3, 4])] 1000 ?_
  show V_X6_firstOf R 3 [(0, kR 149), (1, kR t), (2, kI fm), (3, kI s), (4, kI 0)] μ
  exact H
set_option maxRecDepth 20000 in
theorem vc_X6_firstOf_3 {R : Mem → Option AV → Prop} {fm s to_ t : Int} {μ : Mem} (ht : isT t) (H : r32 to_ ∧ r32 (μ t 1) ∧ (((μ t 1) ≤ to_) → R μ (some (kI 0))) ∧ (¬ ((μ t 1) ≤ to_) → P_X10_isIn s to_ μ ∧ r32 (F_X10_isIn s to_ μ) ∧ (((F_X10_isIn s to_ μ) = 0) → V_X6_firstOf R 3 [(0, kR 149), (1, kR t), (2, kI fm), (3, kI s), (4, kI (to_ + 1))] μ) ∧ (¬ ((F_X10_isIn s to_ μ) = 0) → P_X6_costBy 149 (t + 2) fm to_ s μ ∧ (0 ≤ ((fm * 256) + s) ∧ ((fm * 256) + s) < 2048) ∧ r32 (F_X6_costBy 149 (t + 2) fm to_ s μ) ∧ r32 (μ 153 ((fm * 256) + s)) ∧ ((¬ (F_X6_costBy 149 (t + 2) fm to_ s μ) = (μ 153 ((fm * 256) + s))) → V_X6_firstOf R 3 [(0, kR 149), (1, kR t), (2, kI fm), (3, kI s), (4, kI (to_ + 1))] μ) ∧ (¬ (¬ (F_X6_costBy 149 (t + 2) fm to_ s μ) = (μ 153 ((fm * 256) + s))) → R μ (some (kI to_)))))) : V_X6_firstOf R 3 [(0, kR 149), (1, kR t), (2, kI fm), (3, kI s), (4, kI to_)] μ := by
  refine vm_step2 mt_X6_firstOf ok_X6_firstOf [(3, [0, 1, 2, 3, 4])] 1000 ?_
  show isC t 7 ∧ (r32 to_ ∧ r32 (μ t 1)) ∧ (((μ t 1) ≤ to_) → R μ (some (kI 0))) ∧ (¬ ((μ t 1) ≤ to_) → P_X10_isIn s to_ μ ∧ r32 (F_X10_isIn s to_ μ) ∧ (((F_X10_isIn s to_ μ) = 0) → V_X6_firstOf R 3 [(0, kR 149), (1, kR t), (2, kI fm), (3, kI s), (4, kI (to_ + 1))] μ) ∧ (¬ ((F_X10_isIn s to_ μ) = 0) → isC t 7 ∧ isC 149 6 ∧ P_X6_costBy 149 (t + 2) fm to_ s μ ∧ isC 149 6 ∧ inA 153 0 ((fm * 256) + s) ∧ (r32 (F_X6_costBy 149 (t + 2) fm to_ s μ) ∧ r32 (μ 153 ((fm * 256) + s))) ∧ ((¬ (F_X6_costBy 149 (t + 2) fm to_ s μ) = (μ 153 ((fm * 256) + s))) → V_X6_firstOf R 3 [(0, kR 149), (1, kR t), (2, kI fm), (3, kI s), (4, kI (to_ + 1))] μ) ∧ (¬ (¬ (F_X6_costBy 149 (t + 2) fm to_ s μ) = (μ 153 ((fm * 256) + s))) → R μ (some (kI to_)))))
  exact ⟨isT_C ht, ⟨⟨H.1, H.2.1⟩, fun hc3 => (H.2.2.1 hc3), fun hc3 => ⟨(H.2.2.2 hc3).1, ⟨(H.2.2.2 hc3).2.1, fun hc2 => ((H.2.2.2 hc3).2.2.1 hc2), fun hc2 => ⟨isT_C ht, ⟨c_149, ((H.2.2.2 hc3).2.2.2 hc2).1, ⟨c_149, ⟨isArr.in a_153 ((H.2.2.2 hc3).2.2.2 hc2).2.1.1 ((H.2.2.2 hc3).2.2.2 hc2).2.1.2, ⟨⟨((H.2.2.2 hc3).2.2.2 hc2).2.2.1, ((H.2.2.2 hc3).2.2.2 hc2).2.2.2.1⟩, fun hc1 => (((H.2.2.2 hc3).2.2.2 hc2).2.2.2.2.1 hc1), fun hc1 => (((H.2.2.2 hc3).2.2.2 hc2).2.2.2.2.2 hc1)⟩⟩⟩⟩⟩⟩⟩⟩⟩
theorem body_X6_firstOf {o t fm s : Int} {μ : Mem} {R : Mem → Option AV → Prop} (h : P_X6_firstOf o t fm s μ) (hR : R μ (some (kI (F_X6_firstOf o t fm s μ)))) : V_X6_firstOf R 0 [(0, kR o), (1, kR t), (2, kI fm), (3, kI s)] μ := by
  obtain ⟨rfl, ⟨ht, ok⟩, hf, hs, hr, hc⟩ := h
  have hp : 2 ≤ μ t 1 ∧ μ t 1 ≤ 8 := ok.1
  have hpe : tv μ t 0 0 = μ t 1 := rfl
  refine vc_X6_firstOf_0 ht ?_
  have key : ∀ b : Int, 0 ≤ b → b ≤ μ t 1 → (∀ c : Int, 0 ≤ c → c < b → (hasB s c && decide (F_X6_costBy 149 (t + 2) fm c s μ = μ 153 (256 * fm + s))) = false) → V_X6_firstOf R 3 [(0, kR 149), (1, kR t), (2, kI fm), (3, kI s), (4, kI b)] μ := by
    refine up_ind (P := fun b => (∀ c : Int, 0 ≤ c → c < b → (hasB s c && decide (F_X6_costBy 149 (t + 2) fm c s μ = μ 153 (256 * fm + s))) = false) → V_X6_firstOf R 3 [(0, kR 149), (1, kR t), (2, kI fm), (3, kI s), (4, kI b)] μ) ?_ ?_
    · intro b b0 b1 ih hn
      have nx : (hasB s b && decide (F_X6_costBy 149 (t + 2) fm b s μ = μ 153 (256 * fm + s))) = false → V_X6_firstOf R 3 [(0, kR 149), (1, kR t), (2, kI fm), (3, kI s), (4, kI (b + 1))] μ := fun q => ih (fun c c0 c1 => by
        by_cases hcb : c = b
        · rw [hcb]; exact q
        · exact hn c c0 (by omega))
      have i1 : fm * 256 + s = 256 * fm + s := by omega
      refine vc_X6_firstOf_3 ht ?_
      rw [i1]
      refine ⟨rr (by omega), rr (by omega), fun c => absurd c (by omega), fun _ => ⟨⟨by omega, by omega⟩, ?_⟩⟩
      unfold F_X10_isIn
      cases hb : hasB s b
      · rw [if_neg (by simp)]
        exact ⟨rr (by omega), fun _ => nx (by rw [hb]; rfl), fun c => absurd rfl c⟩
      · rw [if_pos rfl]
        refine ⟨rr (by omega), fun c => absurd c (by omega), fun _ => ⟨⟨rfl, T_ways' ht, hf, by omega, hs, hb⟩, by omega, hc b b0 b1 hb, hr, fun c => nx (by rw [decide_eq_false c, Bool.and_false]), fun c => r_eq hR ?_⟩⟩
        unfold F_X6_firstOf
        rw [frst_at b0 (show b < tv μ t 0 0 from b1) (by rw [hb, decide_eq_true (by omega)]; rfl) hn]
        omega
    · intro hn
      refine vc_X6_firstOf_3 ht ⟨rr (by omega), rr (by omega), fun _ => r_eq hR ?_, fun c => absurd (Int.le_refl _) c⟩
      unfold F_X6_firstOf
      rw [hpe, frst_none (by omega) hn]
      omega
  exact key 0 (by omega) (by omega) (fun c c0 c1 => absurd c0 (by omega))
theorem ct_X6_firstOf : Ct mX6_firstOf 1 24 0 0 (nrmS S_X6_firstOf) := by
  refine ct_vm (own := RX6) (by decide +kernel) rfl ?_ ?_
  · intro as μ Q hS
    unfold S_X6_firstOf at hS
    split at hS
    · exact Nat.le_of_ble_eq_true rfl
    · exact hS.elim
  · intro as μ R hS
    unfold S_X6_firstOf at hS
    split at hS
    · exact body_X6_firstOf hS.1 hS.2
    · exact hS.elim
def stpV (W : Int → Int → Int) (r : Int → Int) (n : Int) (x : Int × Int) : Int × Int := ((rcS W r n (rcV W r n) x.1 x.2).2, remS x.2 (rcS W r n (rcV W r n) x.1 x.2).2)
/-- the row of stops: where i steps lead, and what is still ahead -/
def rtV (W : Int → Int → Int) (r : Int → Int) (n g i : Int) : Int × Int := fold (fun x _ => stpV W r n x) (0, g) i
theorem rtV_s {W : Int → Int → Int} {r : Int → Int} {n g i : Int} (h : 0 ≤ i) : rtV W r n g (i + 1) = stpV W r n (rtV W r n g i) := fold_s h
theorem rcS_in {W : Int → Int → Int} {r : Int → Int} {n fm s : Int} (hn : 0 ≤ n) (s0 : 0 < s) (s1 : s < 256) (hs : ∀ a : Int, 0 ≤ a → a < 8 → hasB s a = true → a < n) : (0 ≤ (rcS W r n (rcV W r n) fm s).2 ∧ (rcS W r n (rcV W r n) fm s).2 < n) ∧ hasB s (rcS W r n (rcV W r n) fm s).2 = true ∧ rcV W r n fm s = W fm (rcS W r n (rcV W r n) fm s).2 * r s + rcV W r n (rcS W r n (rcV W r n) fm s).2 (remS s (rcS W r n (rcV W r n) fm s).2) ∧ (∀ to, 0 ≤ to → to < n → hasB s to = true → rcV W r n fm s ≤ W fm to * r s + rcV W r n to (remS s to)) ∧ ∀ to, 0 ≤ to → to < (rcS W r n (rcV W r n) fm s).2 → hasB s to = true → rcV W r n fm s < W fm to * r s + rcV W r n to (remS s to) := by
  rw [rcV_eq (fm := fm) hn (show 0 ≤ s by omega)]
  unfold rcS
  rw [if_neg (by omega)]
  have hl := least_ne s0 s1
  rcases mnF_cases (q := hasB s) (f := fun to => W fm to * r s + rcV W r n to (remS s to)) (n := n) hn with ⟨_, h⟩ | ⟨b, hb, e, g1, g2, g3⟩
  · have := h _ hl.1.1 (hs _ hl.1.1 hl.1.2 hl.2.1)
    rw [hl.2.1] at this; cases this
  · rw [e]; exact ⟨hb, g1, rfl, g2, g3⟩
def RateR (μ : Mem) : Prop := ∀ s : Int, 0 ≤ s → s < 256 → 0 ≤ μ 152 s ∧ μ 152 s ≤ 274428
def P_X6_trace (o t g : Int) (μ : Mem) : Prop := o = 149 ∧ TB μ t ∧ WY μ t ∧ (0 ≤ g ∧ g < 256) ∧ (∀ a : Int, 0 ≤ a → a < 8 → hasB g a = true → a < tv μ t 0 0) ∧ RateR μ ∧ CostR μ (wayV (tv μ t)) (tv μ t 0 0) g
def RowR (μ : Mem) (W : Int → Int → Int) (r : Int → Int) (n g : Int) : Prop := μ 149 6 = popc g ∧ ∀ k : Int, 0 ≤ k → k < popc g → μ 155 k = (rtV W r n g (k + 1)).1
def Q_X6_trace (_ t g : Int) (μ μ' : Mem) : Prop := RowR μ' (wayV (tv μ t)) (μ 152) (tv μ t 0 0) g ∧ (∀ j : Int, j ≠ 6 → μ' 149 j = μ 149 j) ∧ ∀ z : Int, z ≠ 149 → z ≠ 155 → μ' z = μ z
def S_X6_trace : S0t := fun as μ Q => match as with
  | [(2, x0), (2, x1), (0, x2)] => P_X6_trace x0 x1 x2 μ ∧ ∀ (μ' : Mem) , Q_X6_trace x0 x1 x2 μ μ'  → Q μ' none
  | _ => False
theorem mono_X6_trace : Mono S_X6_trace := by
  intro as μ Q Q' h hS
  unfold S_X6_trace at hS ⊢
  split at hS
  · exact ⟨hS.1, fun μ' q => h _ _ (hS.2 _ q)⟩
  · exact hS.elim
def iX6_trace : Inf := (kX6_trace, fTX6, pTX6, cTX6, lTX6, sTX6, [(141, 0, 3, 6, S_X6_firstOf)])
theorem ok_X6_trace : infOK iX6_trace mX6_trace RX6 2 48 := ⟨kkX6_trace, fTX6_ok, pTX6_ok _, cTX6_ok, lTX6_ok, sTX6_ok, c_cons ⟨mX6_firstOf, 1, 24, ct_X6_firstOf, mmX6_firstOf, vvX6_firstOf, lkX6_141, ⟨by decide, by decide⟩, ⟨_, _, rfl⟩, by decide, mono_X6_firstOf⟩ (c_nil)⟩
theorem mt_X6_trace : mtOK [] RX6 2 48 := mt_nil
abbrev V_X6_trace (R : Mem → Option AV → Prop) (pc : Nat) (lc : List (Nat × AV)) (μ : Mem) : Prop := VM mX6_trace RX6 2 48 R pc lc [] μ
set_option maxRecDepth 20000 in
theorem vc_X6_trace_0 {R : Mem → Option AV → Prop} {g t : Int} {μ : Mem} (ht : isT t) (H : V_X6_trace R 5 [(0, kR 149), (1, kR t), (2, kI g)] (updm μ 149 6 0)) : V_X6_trace R 0 [(0, kR 149), (1, kR t), (2, kI g)] μ := by
  refine vm_step2 mt_X6_trace ok_X6_trace [(5, [0, 1, 2]), (13, [0, 1, 3, 4, 5]), (46, [0, 1, 4, 5, 6]), (56, [0, 1, 4, 5, 6])] 1000 ?_
  show isC 149 6 ∧ 0 = 0 ∧ True ∧ V_X6_trace R 5 [(0, kR 149), (1, kR t), (2, kI g)] (updm μ 149 6 0)
  exact ⟨c_149, rfl, trivial, H⟩
set_option maxRecDepth 20000 in
theorem vc_X6_trace_5 {R : Mem → Option AV → Prop} {g t : Int} {μ : Mem} (ht : isT t) (H : V_X6_trace R 13 [(0, kR 149), (1, kR t), (3, kI 0), (4, kI g), (5, kI 0)] μ) : V_X6_trace R 5 [(0, kR 149), (1, kR t), (2, kI g)] μ := by
  refine vm_step2 mt_X6_trace ok_X6_trace [(5, [0, 1, 2]), (13, [0, 1, 3, 4, 5]), (46, [0, 1, 4, 5, 6]), (56, [0, 1, 4, 5, 6])] 1000 ?_
  show V_X6_trace R 13 [(0, kR 149), (1, kR t), (3, kI 0), (4, kI g), (5, kI 0)] μ
  exact H
set_option maxRecDepth 20000 in
theorem vc_X6_trace_13 {R : Mem → Option AV → Prop} {fm s i t : Int} {μ : Mem} (ht : isT t) (H : r32 i ∧ (((8 : Int) ≤ i) → R μ none) ∧ (¬ ((8 : Int) ≤ i) → r32 s ∧ ((s = 0) → R μ none) ∧ (¬ (s = 0) → P_X6_firstOf 149 t fm s μ ∧ (0 ≤ (μ 149 6) ∧ (μ 149 6) < 8) ∧ V_X6_trace R 46 [(0, kR 149), (1, kR t), (4, kI s), (5, kI i), (6, kI (F_X6_firstOf 149 t fm s μ))] (updm μ 155 (μ 149 6) (F_X6_firstOf 149 t fm s μ))))) : V_X6_trace R 13 [(0, kR 149), (1, kR t), (3, kI fm), (4, kI s), (5, kI i)] μ := by
  refine vm_step2 mt_X6_trace ok_X6_trace [(5, [0, 1, 2]), (13, [0, 1, 3, 4, 5]), (46, [0, 1, 4, 5, 6]), (56, [0, 1, 4, 5, 6])] 1000 ?_
  show (r32 i ∧ r32 (8 : Int)) ∧ (((8 : Int) ≤ i) → R μ none) ∧ (¬ ((8 : Int) ≤ i) → r32 s ∧ ((s = 0) → R μ none) ∧ (¬ (s = 0) → isC 149 6 ∧ P_X6_firstOf 149 t fm s μ ∧ isC 149 6 ∧ isC 149 6 ∧ inA 155 0 (μ 149 6) ∧ V_X6_trace R 46 [(0, kR 149), (1, kR t), (4, kI s), (5, kI i), (6, kI (F_X6_firstOf 149 t fm s μ))] (updm μ 155 (μ 149 6) (F_X6_firstOf 149 t fm s μ))))
  exact ⟨⟨H.1, by unfold r32; omega⟩, fun hc2 => (H.2.1 hc2), fun hc2 => ⟨(H.2.2 hc2).1, fun hc1 => ((H.2.2 hc2).2.1 hc1), fun hc1 => ⟨c_149, ((H.2.2 hc2).2.2 hc1).1, ⟨c_149, ⟨c_149, ⟨isArr.in a_155 ((H.2.2 hc2).2.2 hc1).2.1.1 ((H.2.2 hc2).2.2 hc1).2.1.2, ((H.2.2 hc2).2.2 hc1).2.2⟩⟩⟩⟩⟩⟩
set_option maxRecDepth 20000 in
theorem vc_X6_trace_46 {R : Mem → Option AV → Prop} {s i to_ t : Int} {μ : Mem} (ht : isT t) (H : V_X6_trace R 56 [(0, kR 149), (1, kR t), (4, kI s), (5, kI i), (6, kI to_)] (updm μ 149 6 ((μ 149 6) + 1))) : V_X6_trace R 46 [(0, kR 149), (1, kR t), (4, kI s), (5, kI i), (6, kI to_)] μ := by
  refine vm_step2 mt_X6_trace ok_X6_trace [(5, [0, 1, 2]), (13, [0, 1, 3, 4, 5]), (46, [0, 1, 4, 5, 6]), (56, [0, 1, 4, 5, 6])] 1000 ?_
  show isC 149 6 ∧ isC 149 6 ∧ 0 = 0 ∧ True ∧ V_X6_trace R 56 [(0, kR 149), (1, kR t), (4, kI s), (5, kI i), (6, kI to_)] (updm μ 149 6 ((μ 149 6) + 1))
  exact ⟨c_149, ⟨c_149, rfl, trivial, H⟩⟩
set_option maxRecDepth 20000 in
theorem vc_X6_trace_56 {R : Mem → Option AV → Prop} {s i to_ t : Int} {μ : Mem} (ht : isT t) (H : V_X6_trace R 13 [(0, kR 149), (1, kR t), (3, kI to_), (4, kI (band s (bxor (bshl 1 to_) (-1)))), (5, kI (i + 1))] μ) : V_X6_trace R 56 [(0, kR 149), (1, kR t), (4, kI s), (5, kI i), (6, kI to_)] μ := by
  refine vm_step2 mt_X6_trace ok_X6_trace [(5, [0, 1, 2]), (13, [0, 1, 3, 4, 5]), (46, [0, 1, 4, 5, 6]), (56, [0, 1, 4, 5, 6])] 1000 ?_
  show V_X6_trace R 13 [(0, kR 149), (1, kR t), (3, kI to_), (4, kI (band s (bxor (bshl 1 to_) (-1)))), (5, kI (i + 1))] μ
  exact H
theorem body_X6_trace {o t g : Int} {μ : Mem} {R : Mem → Option AV → Prop} (h : P_X6_trace o t g μ) (hR : ∀ μ' : Mem, Q_X6_trace o t g μ μ' → R μ' none) : V_X6_trace R 0 [(0, kR o), (1, kR t), (2, kI g)] μ := by
  obtain ⟨rfl, ⟨ht, ok⟩, hw, hg, hgn, hrt, hc⟩ := h
  have hp : 2 ≤ μ t 1 ∧ μ t 1 ≤ 8 := ok.1
  have hpe : tv μ t 0 0 = μ t 1 := rfl
  have hT := isT_hi ht
  have fr : ∀ {m : Mem}, (∀ z : Int, z ≠ 149 → z ≠ 155 → m z = μ z) → ∀ z : Int, t ≤ z → z ≤ t + 9 → m z = μ z := fun h z z0 z1 => h z (by omega) (by omega)
  have hpg := popc_bd (s := g)
  have cbd : ∀ fm s : Int, 0 ≤ s → s < 256 → 0 ≤ fm → fm < μ t 1 → 0 ≤ rcV (wayV (tv μ t)) (μ 152) (μ t 1) fm s ∧ rcV (wayV (tv μ t)) (μ 152) (μ t 1) fm s ≤ 307359360 := fun fm s s0 s1 f0 f1 => by
    have h1 := rcV_bd (W := wayV (tv μ t)) (r := μ 152) (n := μ t 1) (B := 274428) (by omega) hp.2 (by omega) (fun a b a0 a1 b0 b1 => (hw a b a0 a1 b0 b1).2) hrt 255 fm s s0 s1 (by omega) ⟨f0, f1⟩
    have h2 := popc_bd (s := s)
    have h3 : popc s * (140 * 274428) ≤ 8 * (140 * 274428) := Int.mul_le_mul_of_nonneg_right h2.2 (by omega)
    omega
  have key : ∀ (k : Nat) (i fm s : Int) (m : Mem), i + k = 8 → 0 ≤ i → (0 ≤ s ∧ s < 256) → subS s g → (0 ≤ fm ∧ fm < μ t 1) → ahead g fm s → popc s = popc g - i → rtV (wayV (tv μ t)) (μ 152) (μ t 1) g i = (fm, s) → (∀ z : Int, z ≠ 149 → z ≠ 155 → m z = μ z) → (∀ j : Int, j ≠ 6 → m 149 j = μ 149 j) → m 149 6 = i → (∀ k : Int, 0 ≤ k → k < i → m 155 k = (rtV (wayV (tv μ t)) (μ 152) (μ t 1) g (k + 1)).1) → V_X6_trace R 13 [(0, kR 149), (1, kR t), (3, kI fm), (4, kI s), (5, kI i)] m := by
    intro k
    induction k with
    | zero =>
      intro i fm s m hik i0 hs hsub hfm hah hps hrv hf h9 h96 hrow
      have hb := popc_bd (s := s)
      refine vc_X6_trace_13 ht ⟨rr (by omega), fun _ => hR m ⟨⟨by omega, fun k k0 k1 => hrow k k0 (by omega)⟩, h9, hf⟩, fun c => absurd (show (8 : Int) ≤ i by omega) c⟩
    | succ k ih =>
      intro i fm s m hik i0 hs hsub hfm hah hps hrv hf h9 h96 hrow
      by_cases hs0 : s = 0
      · subst hs0
        rw [popc_0] at hps
        exact vc_X6_trace_13 ht ⟨rr (by omega), fun c => absurd c (by omega), fun _ => ⟨rr (by omega), fun _ => hR m ⟨⟨by omega, fun k k0 k1 => hrow k k0 (by omega)⟩, h9, hf⟩, fun c => absurd rfl c⟩⟩
      · have hsn : ∀ a : Int, 0 ≤ a → a < 8 → hasB s a = true → a < μ t 1 := fun a a0 a1 ha => hgn a a0 a1 (hsub a a0 a1 ha)
        have etv := tv_frame (fr hf)
        have hin := rcS_in (W := wayV (tv μ t)) (r := μ 152) (n := μ t 1) (fm := fm) (by omega) (show 0 < s by omega) hs.2 hsn
        have hst : stpV (wayV (tv μ t)) (μ 152) (μ t 1) (fm, s) = ((rcS (wayV (tv μ t)) (μ 152) (μ t 1) (rcV (wayV (tv μ t)) (μ 152) (μ t 1)) fm s).2, remS s (rcS (wayV (tv μ t)) (μ 152) (μ t 1) (rcV (wayV (tv μ t)) (μ 152) (μ t 1)) fm s).2) := rfl
        generalize (rcS (wayV (tv μ t)) (μ 152) (μ t 1) (rcV (wayV (tv μ t)) (μ 152) (μ t 1)) fm s).2 = to at hin hst
        obtain ⟨hto, hhas, hval, hmin, hfst⟩ := hin
        have ecb : ∀ b : Int, 0 ≤ b → b < μ t 1 → hasB s b = true → F_X6_costBy 149 (t + 2) fm b s m = wayV (tv μ t) fm b * μ 152 s + rcV (wayV (tv μ t)) (μ 152) (μ t 1) b (remS s b) := by
          intro b b0 b1 hb
          have hr2 := rem_bd (s := s) (a := b) hs.1
          unfold F_X6_costBy
          rw [hf (t + 2) (by omega) (by omega), hf 152 (by omega) (by omega), hf 153 (by omega) (by omega), (hw fm b hfm.1 hfm.2 b0 b1).1, hc (remS s b) b hr2.1 (by omega) (sub_rem hsub b0) b0 b1 (ahead_rem hsub b0 (by omega) hb)]
          rfl
        have ecs : m 153 (256 * fm + s) = rcV (wayV (tv μ t)) (μ 152) (μ t 1) fm s := by
          rw [hf 153 (by omega) (by omega)]
          exact hc s fm hs.1 hs.2 hsub hfm.1 hfm.2 hah
        have efo : F_X6_firstOf 149 t fm s m = to := by
          unfold F_X6_firstOf
          rw [etv, ecs]
          have : frst (fun to => hasB s to && decide (F_X6_costBy 149 (t + 2) fm to s m = rcV (wayV (tv μ t)) (μ 152) (μ t 1) fm s)) (tv μ t 0 0) = to := by
            refine frst_at hto.1 hto.2 ?_ (fun b b0 b1 => ?_)
            · show (hasB s to && decide (F_X6_costBy 149 (t + 2) fm to s m = rcV (wayV (tv μ t)) (μ 152) (μ t 1) fm s)) = true
              rw [hhas, ecb to hto.1 hto.2 hhas, decide_eq_true hval.symm]; rfl
            · show (hasB s b && decide (F_X6_costBy 149 (t + 2) fm b s m = rcV (wayV (tv μ t)) (μ 152) (μ t 1) fm s)) = false
              cases hb : hasB s b
              · rfl
              · have := hfst b b0 b1 hb
                rw [ecb b b0 (by omega) hb, decide_eq_false (by omega)]; rfl
          rw [this]
          omega
        have hrs := hrt s hs.1 hs.2
        refine vc_X6_trace_13 ht ⟨rr (by omega), fun c => absurd c (by omega), fun _ => ⟨rr (by omega), fun c => absurd c hs0, fun _ => ⟨⟨rfl, TB_frame ⟨ht, ok⟩ (fr hf), by omega, hs, ?_, ?_⟩, by omega, vc_X6_trace_46 ht ?_⟩⟩⟩
        · rw [ecs]
          have := cbd fm s hs.1 hs.2 hfm.1 hfm.2
          exact rr (by omega)
        · rw [etv]
          intro b b0 b1 hb
          rw [ecb b b0 b1 hb]
          have hr2 := rem_bd (s := s) (a := b) hs.1
          have h1 := cbd b (remS s b) hr2.1 (by omega) b0 b1
          have h2 := (hw fm b hfm.1 hfm.2 b0 b1).2
          have h3 := mul_bd h2.1 h2.2 hrs.1 hrs.2
          exact rr (by omega)
        · rw [efo, h96]
          refine vc_X6_trace_56 ht ?_
          rw [b_rem hs.1 (by omega) hto.1 (by omega)]
          have hr2 := rem_bd (s := s) (a := to) hs.1
          have hpr := popc_rem hto.1 (show to < 8 by omega) hhas
          have er : rtV (wayV (tv μ t)) (μ 152) (μ t 1) g (i + 1) = (to, remS s to) := by rw [rtV_s i0, hrv, hst]
          refine ih (i + 1) to (remS s to) _ (by omega) (by omega) ⟨hr2.1, by omega⟩ (sub_rem hsub hto.1) hto (ahead_rem hsub hto.1 (by omega) hhas) (by omega) er (fun z z0 z1 => by rw [ru_ne z0, ru_ne z1]; exact hf z z0 z1) (fun j hj => by rw [ru_eq, r1_ne hj, ru_ne (by omega)]; exact h9 j hj) (by rw [ru_eq, r1_eq, ru_ne (by omega), h96]) (fun k k0 k1 => ?_)
          rw [ru_ne (by omega), ru_eq]
          by_cases hk : k = i
          · rw [hk, r1_eq, er]
          · rw [r1_ne hk]; exact hrow k k0 (by omega)
  refine vc_X6_trace_0 ht (vc_X6_trace_5 ht ?_)
  exact key 8 0 0 g _ (by omega) (by omega) hg (fun _ _ _ h => h) (by omega) (Or.inl rfl) (by omega) rfl (fun z z0 z1 => ru_ne z0) (fun j hj => by rw [ru_eq, r1_ne hj]) (by rw [ru_eq, r1_eq]) (fun k k0 k1 => absurd k0 (by omega))
theorem ct_X6_trace : Ct mX6_trace 2 48 0 0 (nrmS S_X6_trace) := by
  refine ct_vm (own := RX6) (by decide +kernel) rfl ?_ ?_
  · intro as μ Q hS
    unfold S_X6_trace at hS
    split at hS
    · exact Nat.le_of_ble_eq_true rfl
    · exact hS.elim
  · intro as μ R hS
    unfold S_X6_trace at hS
    split at hS
    · exact body_X6_trace hS.1 hS.2
    · exact hS.elim
/-! of a set: its chances together, its couples' together -/
def sumV (v : TV) (s : Int) : Int := sm (fun a => if hasB s a = true then v 4 a else 0) 8
def coupV (v : TV) (s : Int) : Int := sm (fun a => sm (fun b => if hasB s a = true ∧ hasB s b = true then v 4 a * v 4 b else 0) a) 8
theorem sumV_0 {v : TV} : sumV v 0 = 0 := by
  unfold sumV
  have : (fun a => if hasB 0 a = true then v 4 a else 0) = fun _ => 0 := by funext a; rw [has_0]; rfl
  rw [this, sm_zero (by omega)]
theorem coupV_0 {v : TV} : coupV v 0 = 0 := by
  unfold coupV
  rw [sm_congr (g := fun _ => 0) (fun a a0 _ => ?_), sm_zero (by omega)]
  have : (fun b => if hasB 0 a = true ∧ hasB 0 b = true then v 4 a * v 4 b else 0) = fun _ => 0 := by funext b; rw [has_0]; simp
  show sm (fun b => if hasB 0 a = true ∧ hasB 0 b = true then v 4 a * v 4 b else 0) a = 0
  rw [this, sm_zero a0]
theorem sumV_s {v : TV} {s : Int} (s0 : 0 < s) (s1 : s < 256) : sumV v s = sumV v (remS s (leastB s)) + v 4 (leastB s) := by
  have hl := least_ne s0 s1
  have e : ∀ a : Int, 0 ≤ a → a < 8 → (if hasB s a = true then v 4 a else 0) = (if hasB (remS s (leastB s)) a = true then v 4 a else 0) + (if a = leastB s then v 4 (leastB s) else 0) := by
    intro a a0 a1
    rw [has_rem hl.1.1 a0]
    by_cases h : a = leastB s
    · rw [h, hl.2.1, if_pos rfl, if_pos rfl, decide_eq_false (fun q => q rfl), Bool.and_false, if_neg (by simp)]; omega
    · rw [if_neg h, decide_eq_true h, Bool.and_true]; omega
  unfold sumV
  rw [sm_congr e, sm_add (by omega), sm_one (by omega), if_pos hl.1]
theorem coupV_s {v : TV} {s : Int} (s0 : 0 < s) (s1 : s < 256) : coupV v s = coupV v (remS s (leastB s)) + v 4 (leastB s) * sumV v (remS s (leastB s)) := by
  have hl := least_ne s0 s1
  have e : ∀ a : Int, 0 ≤ a → a < 8 → sm (fun b => if hasB s a = true ∧ hasB s b = true then v 4 a * v 4 b else 0) a = sm (fun b => if hasB (remS s (leastB s)) a = true ∧ hasB (remS s (leastB s)) b = true then v 4 a * v 4 b else 0) a + (if hasB (remS s (leastB s)) a = true then v 4 a else 0) * v 4 (leastB s) := by
    intro a a0 a1
    by_cases ho : hasB (remS s (leastB s)) a = true
    · rw [if_pos ho]
      have h1 := ho
      rw [has_rem hl.1.1 a0] at h1
      have h2 := Bool.and_eq_true _ _ |>.mp h1
      have h3 := of_decide_eq_true h2.2
      have hlt : leastB s < a := by
        by_cases c : a < leastB s
        · have := hl.2.2 a a0 c
          rw [h2.1] at this; cases this
        · omega
      have ei : ∀ b : Int, 0 ≤ b → b < a → (if hasB s a = true ∧ hasB s b = true then v 4 a * v 4 b else 0) = (if hasB (remS s (leastB s)) a = true ∧ hasB (remS s (leastB s)) b = true then v 4 a * v 4 b else 0) + (if b = leastB s then v 4 a * v 4 (leastB s) else 0) := by
        intro b b0 b1
        rw [has_rem hl.1.1 b0]
        by_cases hb : b = leastB s
        · rw [hb, if_pos ⟨h2.1, hl.2.1⟩, if_pos rfl, decide_eq_false (fun q => q rfl), Bool.and_false, if_neg (by simp)]; omega
        · rw [if_neg hb, decide_eq_true hb, Bool.and_true]
          by_cases c : hasB s b = true
          · rw [if_pos ⟨h2.1, c⟩, if_pos ⟨ho, c⟩]; omega
          · rw [if_neg (fun q => c q.2), if_neg (fun q => c q.2)]; rfl
      rw [sm_congr ei, sm_add a0, sm_one a0, if_pos ⟨hl.1.1, hlt⟩]
    · rw [if_neg ho, Int.zero_mul, Int.add_zero]
      refine sm_congr (fun b b0 b1 => ?_)
      rw [if_neg (show ¬ (hasB (remS s (leastB s)) a = true ∧ hasB (remS s (leastB s)) b = true) from fun q => ho q.1)]
      refine if_neg (fun q => ?_)
      by_cases ha : a = leastB s
      · have := hl.2.2 b b0 (by omega)
        rw [q.2] at this; cases this
      · rw [has_rem hl.1.1 a0, q.1, decide_eq_true ha] at ho
        exact ho rfl
  unfold coupV
  rw [sm_congr e, sm_add (by omega), sm_mul (by omega), Int.mul_comm (v 4 (leastB s))]
  rfl
def P_X6_sumUp (o t : Int) (μ : Mem) : Prop := o = 149 ∧ TB μ t
def Q_X6_sumUp (_ t : Int) (μ μ' : Mem) : Prop := (∀ s : Int, 0 ≤ s → s < 256 → μ' 150 s = sumV (tv μ t) s ∧ μ' 151 s = coupV (tv μ t) s) ∧ ∀ z : Int, z ≠ 150 → z ≠ 151 → μ' z = μ z
def S_X6_sumUp : S0t := fun as μ Q => match as with
  | [(2, x0), (2, x1)] => P_X6_sumUp x0 x1 μ ∧ ∀ (μ' : Mem) , Q_X6_sumUp x0 x1 μ μ'  → Q μ' none
  | _ => False
theorem mono_X6_sumUp : Mono S_X6_sumUp := by
  intro as μ Q Q' h hS
  unfold S_X6_sumUp at hS ⊢
  split at hS
  · exact ⟨hS.1, fun μ' q => h _ _ (hS.2 _ q)⟩
  · exact hS.elim
def iX6_sumUp : Inf := (kX6_sumUp, fTX6, pTX6, cTX6, lTX6, sTX6, [(119, 1, 1, 0, S_X10_leastOf), (123, 0, 1, 7, S_X7_has)])
theorem ok_X6_sumUp : infOK iX6_sumUp mX6_sumUp RX6 2 42 := ⟨kkX6_sumUp, fTX6_ok, pTX6_ok _, cTX6_ok, lTX6_ok, sTX6_ok, c_cons ⟨mX10_leastOf, 1, 21, ct_X10_leastOf, mmX10_leastOf, stX10_leastOf, lkX6_119, ⟨by decide, by decide⟩, mono_X10_leastOf⟩ (c_cons ⟨mX7_has, 0, 0, ct_X7_has, mmX7_has, vvX7_has, lkX6_123, ⟨by decide, by decide⟩, ⟨_, _, rfl⟩, by decide, mono_X7_has⟩ (c_nil))⟩
theorem mt_X6_sumUp : mtOK [] RX6 2 42 := mt_nil
abbrev V_X6_sumUp (R : Mem → Option AV → Prop) (pc : Nat) (lc : List (Nat × AV)) (μ : Mem) : Prop := VM mX6_sumUp RX6 2 42 R pc lc [] μ
set_option maxRecDepth 20000 in
theorem vc_X6_sumUp_0 {R : Mem → Option AV → Prop} {t : Int} {μ : Mem} (ht : isT t) (H : V_X6_sumUp R 7 [(0, kR 149), (1, kR t)] (updm μ 150 0 0)) : V_X6_sumUp R 0 [(0, kR 149), (1, kR t)] μ := by
  refine vm_step2 mt_X6_sumUp ok_X6_sumUp [(7, [0, 1]), (14, [0, 1]), (16, [0, 1, 2]), (71, [0, 1, 2, 4, 5]), (95, [0, 1, 2])] 1000 ?_
  show isC 149 6 ∧ inA 150 0 (0 : Int) ∧ V_X6_sumUp R 7 [(0, kR 149), (1, kR t)] (updm μ 150 0 0)
  exact ⟨c_149, ⟨isArr.in a_150 (by omega) (by omega), H⟩⟩
set_option maxRecDepth 20000 in
theorem vc_X6_sumUp_7 {R : Mem → Option AV → Prop} {t : Int} {μ : Mem} (ht : isT t) (H : V_X6_sumUp R 14 [(0, kR 149), (1, kR t)] (updm μ 151 0 0)) : V_X6_sumUp R 7 [(0, kR 149), (1, kR t)] μ := by
  refine vm_step2 mt_X6_sumUp ok_X6_sumUp [(7, [0, 1]), (14, [0, 1]), (16, [0, 1, 2]), (71, [0, 1, 2, 4, 5]), (95, [0, 1, 2])] 1000 ?_
  show isC 149 6 ∧ inA 151 0 (0 : Int) ∧ V_X6_sumUp R 14 [(0, kR 149), (1, kR t)] (updm μ 151 0 0)
  exact ⟨c_149, ⟨isArr.in a_151 (by omega) (by omega), H⟩⟩
set_option maxRecDepth 20000 in
theorem vc_X6_sumUp_14 {R : Mem → Option AV → Prop} {t : Int} {μ : Mem} (ht : isT t) (H : V_X6_sumUp R 16 [(0, kR 149), (1, kR t), (2, kI 1)] μ) : V_X6_sumUp R 14 [(0, kR 149), (1, kR t)] μ := by
  refine vm_step2 mt_X6_sumUp ok_X6_sumUp [(7, [0, 1]), (14, [0, 1]), (16, [0, 1, 2]), (71, [0, 1, 2, 4, 5]), (95, [0, 1, 2])] 1000 ?_
  show V_X6_sumUp R 16 [(0, kR 149), (1, kR t), (2, kI 1)] μ
  exact H
set_option maxRecDepth 20000 in
theorem vc_X6_sumUp_16 {R : Mem → Option AV → Prop} {s t : Int} {μ : Mem} (ht : isT t) (H : r32 s ∧ (((256 : Int) ≤ s) → R μ none) ∧ (¬ ((256 : Int) ≤ s) → P_X10_leastOf s μ ∧ P_X7_has t (F_X10_leastOf s μ) μ ∧ r32 (F_X7_has t (F_X10_leastOf s μ) μ) ∧ (((F_X7_has t (F_X10_leastOf s μ) μ) = 0) → (0 ≤ (band s (s - 1)) ∧ (band s (s - 1)) < 256) ∧ (0 ≤ s ∧ s < 256) ∧ V_X6_sumUp R 71 [(0, kR 149), (1, kR t), (2, kI s), (4, kI (band s (s - 1))), (5, kI 0)] (updm μ 150 s ((μ 150 (band s (s - 1))) + 0))) ∧ (¬ ((F_X7_has t (F_X10_leastOf s μ) μ) = 0) → (0 ≤ (F_X10_leastOf s μ) ∧ (F_X10_leastOf s μ) < 8) ∧ (0 ≤ (band s (s - 1)) ∧ (band s (s - 1)) < 256) ∧ (0 ≤ s ∧ s < 256) ∧ V_X6_sumUp R 71 [(0, kR 149), (1, kR t), (2, kI s), (4, kI (band s (s - 1))), (5, kI (μ (t + 3) (F_X10_leastOf s μ)))] (updm μ 150 s ((μ 150 (band s (s - 1))) + (μ (t + 3) (F_X10_leastOf s μ))))))) : V_X6_sumUp R 16 [(0, kR 149), (1, kR t), (2, kI s)] μ := by
  refine vm_step2 mt_X6_sumUp ok_X6_sumUp [(7, [0, 1]), (14, [0, 1]), (16, [0, 1, 2]), (71, [0, 1, 2, 4, 5]), (95, [0, 1, 2])] 1000 ?_
  show (r32 s ∧ r32 (256 : Int)) ∧ (((256 : Int) ≤ s) → R μ none) ∧ (¬ ((256 : Int) ≤ s) → P_X10_leastOf s μ ∧ isC t 7 ∧ P_X7_has t (F_X10_leastOf s μ) μ ∧ r32 (F_X7_has t (F_X10_leastOf s μ) μ) ∧ (((F_X7_has t (F_X10_leastOf s μ) μ) = 0) → isC 149 6 ∧ isC 149 6 ∧ inA 150 0 (band s (s - 1)) ∧ inA 150 0 s ∧ V_X6_sumUp R 71 [(0, kR 149), (1, kR t), (2, kI s), (4, kI (band s (s - 1))), (5, kI 0)] (updm μ 150 s ((μ 150 (band s (s - 1))) + 0))) ∧ (¬ ((F_X7_has t (F_X10_leastOf s μ) μ) = 0) → isC t 7 ∧ inA (t + 3) 0 (F_X10_leastOf s μ) ∧ isC 149 6 ∧ isC 149 6 ∧ inA 150 0 (band s (s - 1)) ∧ inA 150 0 s ∧ V_X6_sumUp R 71 [(0, kR 149), (1, kR t), (2, kI s), (4, kI (band s (s - 1))), (5, kI (μ (t + 3) (F_X10_leastOf s μ)))] (updm μ 150 s ((μ 150 (band s (s - 1))) + (μ (t + 3) (F_X10_leastOf s μ))))))
  exact ⟨⟨H.1, by unfold r32; omega⟩, fun hc2 => (H.2.1 hc2), fun hc2 => ⟨(H.2.2 hc2).1, ⟨isT_C ht, (H.2.2 hc2).2.1, ⟨(H.2.2 hc2).2.2.1, fun hc1 => ⟨c_149, ⟨c_149, ⟨isArr.in a_150 ((H.2.2 hc2).2.2.2.1 hc1).1.1 ((H.2.2 hc2).2.2.2.1 hc1).1.2, ⟨isArr.in a_150 ((H.2.2 hc2).2.2.2.1 hc1).2.1.1 ((H.2.2 hc2).2.2.2.1 hc1).2.1.2, ((H.2.2 hc2).2.2.2.1 hc1).2.2⟩⟩⟩⟩, fun hc1 => ⟨isT_C ht, ⟨isArr.in (T_chance ht) ((H.2.2 hc2).2.2.2.2 hc1).1.1 ((H.2.2 hc2).2.2.2.2 hc1).1.2, ⟨c_149, ⟨c_149, ⟨isArr.in a_150 ((H.2.2 hc2).2.2.2.2 hc1).2.1.1 ((H.2.2 hc2).2.2.2.2 hc1).2.1.2, ⟨isArr.in a_150 ((H.2.2 hc2).2.2.2.2 hc1).2.2.1.1 ((H.2.2 hc2).2.2.2.2 hc1).2.2.1.2, ((H.2.2 hc2).2.2.2.2 hc1).2.2.2⟩⟩⟩⟩⟩⟩⟩⟩⟩⟩
set_option maxRecDepth 20000 in
theorem vc_X6_sumUp_71 {R : Mem → Option AV → Prop} {s v4 v5 t : Int} {μ : Mem} (ht : isT t) (H : (0 ≤ v4 ∧ v4 < 256) ∧ (0 ≤ v4 ∧ v4 < 256) ∧ (0 ≤ s ∧ s < 256) ∧ V_X6_sumUp R 95 [(0, kR 149), (1, kR t), (2, kI s)] (updm μ 151 s ((μ 151 v4) + (v5 * (μ 150 v4))))) : V_X6_sumUp R 71 [(0, kR 149), (1, kR t), (2, kI s), (4, kI v4), (5, kI v5)] μ := by
  refine vm_step2 mt_X6_sumUp ok_X6_sumUp [(7, [0, 1]), (14, [0, 1]), (16, [0, 1, 2]), (71, [0, 1, 2, 4, 5]), (95, [0, 1, 2])] 1000 ?_
  show isC 149 6 ∧ isC 149 6 ∧ inA 151 0 v4 ∧ isC 149 6 ∧ inA 150 0 v4 ∧ inA 151 0 s ∧ V_X6_sumUp R 95 [(0, kR 149), (1, kR t), (2, kI s)] (updm μ 151 s ((μ 151 v4) + (v5 * (μ 150 v4))))
  exact ⟨c_149, ⟨c_149, ⟨isArr.in a_151 H.1.1 H.1.2, ⟨c_149, ⟨isArr.in a_150 H.2.1.1 H.2.1.2, ⟨isArr.in a_151 H.2.2.1.1 H.2.2.1.2, H.2.2.2⟩⟩⟩⟩⟩⟩
set_option maxRecDepth 20000 in
theorem vc_X6_sumUp_95 {R : Mem → Option AV → Prop} {s t : Int} {μ : Mem} (ht : isT t) (H : V_X6_sumUp R 16 [(0, kR 149), (1, kR t), (2, kI (s + 1))] μ) : V_X6_sumUp R 95 [(0, kR 149), (1, kR t), (2, kI s)] μ := by
  refine vm_step2 mt_X6_sumUp ok_X6_sumUp [(7, [0, 1]), (14, [0, 1]), (16, [0, 1, 2]), (71, [0, 1, 2, 4, 5]), (95, [0, 1, 2])] 1000 ?_
  show V_X6_sumUp R 16 [(0, kR 149), (1, kR t), (2, kI (s + 1))] μ
  exact H
theorem body_X6_sumUp {o t : Int} {μ : Mem} {R : Mem → Option AV → Prop} (h : P_X6_sumUp o t μ) (hR : ∀ μ' : Mem, Q_X6_sumUp o t μ μ' → R μ' none) : V_X6_sumUp R 0 [(0, kR o), (1, kR t)] μ := by
  obtain ⟨rfl, ht, ok⟩ := h
  have hp : 2 ≤ μ t 1 ∧ μ t 1 ≤ 8 := ok.1
  have hT := isT_hi ht
  have key : ∀ s : Int, 1 ≤ s → s ≤ 256 → ∀ m : Mem, (∀ z : Int, z ≠ 150 → z ≠ 151 → m z = μ z) → (∀ s' : Int, 0 ≤ s' → s' < s → m 150 s' = sumV (tv μ t) s' ∧ m 151 s' = coupV (tv μ t) s') → V_X6_sumUp R 16 [(0, kR 149), (1, kR t), (2, kI s)] m := by
    refine up_ind (P := fun s => ∀ m : Mem, (∀ z : Int, z ≠ 150 → z ≠ 151 → m z = μ z) → (∀ s' : Int, 0 ≤ s' → s' < s → m 150 s' = sumV (tv μ t) s' ∧ m 151 s' = coupV (tv μ t) s') → V_X6_sumUp R 16 [(0, kR 149), (1, kR t), (2, kI s)] m) ?_ ?_
    · intro s s0 s1 ih m hf hh
      have hl := least_ne (show 0 < s by omega) s1
      have hr := rem_lt (s := s) (by omega) hl.1.1 hl.2.1
      have hr2 := rem_bd (s := s) (a := leastB s) (by omega)
      have ho := hh (remS s (leastB s)) hr2.1 hr
      have e1 : m t 1 = μ t 1 := by rw [hf t (by omega) (by omega)]
      have nx : ∀ c : Int, c = tv μ t 4 (leastB s) → V_X6_sumUp R 71 [(0, kR 149), (1, kR t), (2, kI s), (4, kI (remS s (leastB s))), (5, kI c)] (updm m 150 s (sumV (tv μ t) (remS s (leastB s)) + c)) := by
        intro c hc
        refine vc_X6_sumUp_71 ht ⟨by omega, by omega, by omega, vc_X6_sumUp_95 ht ?_⟩
        rw [ru_ne (by omega), ru_eq, r1_ne (by omega), ho.1, ho.2]
        refine ih _ (fun z z0 z1 => by rw [ru_ne z1, ru_ne z0]; exact hf z z0 z1) (fun s' x0 x1 => ?_)
        rw [ru_ne (by omega), ru_eq, ru_eq, ru_ne (by omega)]
        by_cases hs : s' = s
        · rw [hs, r1_eq, r1_eq, sumV_s (by omega) s1, coupV_s (by omega) s1, hc]
          exact ⟨rfl, rfl⟩
        · rw [r1_ne hs, r1_ne hs]; exact hh s' x0 (by omega)
      refine vc_X6_sumUp_16 ht ?_
      unfold P_X10_leastOf F_X10_leastOf P_X7_has F_X7_has
      have e : max 0 (leastB s) = leastB s := by omega
      rw [e, b_low (by omega) s1, e1, ho.1]
      refine ⟨rr (by omega), fun c => absurd c (by omega), fun _ => ⟨by omega, ⟨ht, rr (by omega), hp⟩, ?_⟩⟩
      by_cases hh2 : 0 ≤ leastB s ∧ leastB s < μ t 1
      · rw [if_pos hh2]
        refine ⟨rr (by omega), fun c => absurd c (by omega), fun _ => ⟨by omega, by omega, by omega, ?_⟩⟩
        rw [hf (t + 3) (by omega) (by omega), e4 μ t hl.1.1 hl.1.2]
        exact nx _ rfl
      · rw [if_neg hh2]
        refine ⟨rr (by omega), fun _ => ⟨by omega, by omega, ?_⟩, fun c => absurd rfl c⟩
        exact nx 0 (ok.2.2.2.2.1 (leastB s) (by show μ t 1 ≤ leastB s; omega) hl.1.2).symm
    · intro m hf hh
      exact vc_X6_sumUp_16 ht ⟨rr (by omega), fun _ => hR m ⟨hh, hf⟩, fun c => absurd (Int.le_refl _) c⟩
  refine vc_X6_sumUp_0 ht (vc_X6_sumUp_7 ht (vc_X6_sumUp_14 ht ?_))
  refine key 1 (by omega) (by omega) _ (fun z z0 z1 => by rw [ru_ne z1, ru_ne z0]) (fun s' x0 x1 => ?_)
  have : s' = 0 := by omega
  subst this
  rw [ru_ne (by omega), ru_eq, r1_eq, ru_eq, r1_eq, sumV_0, coupV_0]
  exact ⟨rfl, rfl⟩
theorem ct_X6_sumUp : Ct mX6_sumUp 2 42 0 0 (nrmS S_X6_sumUp) := by
  refine ct_vm (own := RX6) (by decide +kernel) rfl ?_ ?_
  · intro as μ Q hS
    unfold S_X6_sumUp at hS
    split at hS
    · exact Nat.le_of_ble_eq_true rfl
    · exact hS.elim
  · intro as μ R hS
    unfold S_X6_sumUp at hS
    split at hS
    · exact body_X6_sumUp hS.1 hS.2
    · exact hS.elim
def P_X6_sumOf (z s n : Int) (_ : Mem) : Prop := isArr z 0 8 ∧ (0 ≤ s ∧ s < 256) ∧ (0 ≤ n ∧ n ≤ 8)
def F_X6_sumOf (z s n : Int) (μ : Mem) : Int := sm (fun a => if hasB s a = true then μ z a else 0) n
def S_X6_sumOf : S0t := fun as μ Q => match as with
  | [(2, x0), (0, x1), (0, x2)] => P_X6_sumOf x0 x1 x2 μ ∧ Q μ (some (kI (F_X6_sumOf x0 x1 x2 μ)))
  | _ => False
theorem mono_X6_sumOf : Mono S_X6_sumOf := by
  intro as μ Q Q' h hS
  unfold S_X6_sumOf at hS ⊢
  split at hS
  · exact ⟨hS.1, h _ _ hS.2⟩
  · exact hS.elim
def iX6_sumOf : Inf := (kX6_sumOf, fTX6, pTX6, cTX6, lTX6, sTX6, [(110, 1, 2, 0, S_X10_isIn)])
theorem ok_X6_sumOf : infOK iX6_sumOf mX6_sumOf RX6 1 21 := ⟨kkX6_sumOf, fTX6_ok, pTX6_ok _, cTX6_ok, lTX6_ok, sTX6_ok, c_cons ⟨mX10_isIn, 0, 0, ct_X10_isIn, mmX10_isIn, stX10_isIn, lkX6_110, ⟨by decide, by decide⟩, mono_X10_isIn⟩ (c_nil)⟩
theorem mt_X6_sumOf : mtOK [] RX6 1 21 := mt_nil
abbrev V_X6_sumOf (R : Mem → Option AV → Prop) (pc : Nat) (lc : List (Nat × AV)) (μ : Mem) : Prop := VM mX6_sumOf RX6 1 21 R pc lc [] μ
set_option maxRecDepth 20000 in
theorem vc_X6_sumOf_0 {R : Mem → Option AV → Prop} {s n z : Int} {μ : Mem} (hz : isArr z 0 8) (H : V_X6_sumOf R 5 [(0, kR z), (1, kI s), (2, kI n), (3, kI 0), (4, kI 0)] μ) : V_X6_sumOf R 0 [(0, kR z), (1, kI s), (2, kI n)] μ := by
  refine vm_step2 mt_X6_sumOf ok_X6_sumOf [(5, [0, 1, 2, 3, 4])] 1000 ?_
  show V_X6_sumOf R 5 [(0, kR z), (1, kI s), (2, kI n), (3, kI 0), (4, kI 0)] μ
  exact H
set_option maxRecDepth 20000 in
theorem vc_X6_sumOf_5 {R : Mem → Option AV → Prop} {s n sum a z : Int} {μ : Mem} (hz : isArr z 0 8) (H : r32 a ∧ r32 n ∧ ((n ≤ a) → R μ (some (kI sum))) ∧ (¬ (n ≤ a) → P_X10_isIn s a μ ∧ r32 (F_X10_isIn s a μ) ∧ (((F_X10_isIn s a μ) = 0) → V_X6_sumOf R 5 [(0, kR z), (1, kI s), (2, kI n), (3, kI sum), (4, kI (a + 1))] μ) ∧ (¬ ((F_X10_isIn s a μ) = 0) → (0 ≤ a ∧ a < 8) ∧ V_X6_sumOf R 5 [(0, kR z), (1, kI s), (2, kI n), (3, kI (sum + (μ z a))), (4, kI (a + 1))] μ))) : V_X6_sumOf R 5 [(0, kR z), (1, kI s), (2, kI n), (3, kI sum), (4, kI a)] μ := by
  refine vm_step2 mt_X6_sumOf ok_X6_sumOf [(5, [0, 1, 2, 3, 4])] 1000 ?_
  show (r32 a ∧ r32 n) ∧ ((n ≤ a) → R μ (some (kI sum))) ∧ (¬ (n ≤ a) → P_X10_isIn s a μ ∧ r32 (F_X10_isIn s a μ) ∧ (((F_X10_isIn s a μ) = 0) → V_X6_sumOf R 5 [(0, kR z), (1, kI s), (2, kI n), (3, kI sum), (4, kI (a + 1))] μ) ∧ (¬ ((F_X10_isIn s a μ) = 0) → inA z 0 a ∧ V_X6_sumOf R 5 [(0, kR z), (1, kI s), (2, kI n), (3, kI (sum + (μ z a))), (4, kI (a + 1))] μ))
  exact ⟨⟨H.1, H.2.1⟩, fun hc2 => (H.2.2.1 hc2), fun hc2 => ⟨(H.2.2.2 hc2).1, ⟨(H.2.2.2 hc2).2.1, fun hc1 => ((H.2.2.2 hc2).2.2.1 hc1), fun hc1 => ⟨isArr.in hz ((H.2.2.2 hc2).2.2.2 hc1).1.1 ((H.2.2.2 hc2).2.2.2 hc1).1.2, ((H.2.2.2 hc2).2.2.2 hc1).2⟩⟩⟩⟩
theorem body_X6_sumOf {z s n : Int} {μ : Mem} {R : Mem → Option AV → Prop} (h : P_X6_sumOf z s n μ) (hR : R μ (some (kI (F_X6_sumOf z s n μ)))) : V_X6_sumOf R 0 [(0, kR z), (1, kI s), (2, kI n)] μ := by
  obtain ⟨hz, hs, hn⟩ := h
  refine vc_X6_sumOf_0 hz ?_
  refine up_ind (P := fun a => V_X6_sumOf R 5 [(0, kR z), (1, kI s), (2, kI n), (3, kI (sm (fun a => if hasB s a = true then μ z a else 0) a)), (4, kI a)] μ) (lo := 0) (hi := n) ?_ ?_ 0 (by omega) hn.1
  · intro a a0 a1 ih
    rw [sm_s a0] at ih
    refine vc_X6_sumOf_5 hz ⟨rr (by omega), rr (by omega), fun c => absurd c (by omega), fun _ => ⟨⟨by omega, by omega⟩, ?_⟩⟩
    unfold F_X10_isIn
    by_cases hb : hasB s a = true
    · rw [if_pos hb] at ih ⊢
      exact ⟨rr (by omega), fun c => absurd c (by omega), fun _ => ⟨by omega, ih⟩⟩
    · rw [if_neg hb] at ih ⊢
      rw [Int.add_zero] at ih
      exact ⟨rr (by omega), fun _ => ih, fun c => absurd rfl c⟩
  · exact vc_X6_sumOf_5 hz ⟨rr (by omega), rr (by omega), fun _ => hR, fun c => absurd (Int.le_refl _) c⟩
theorem ct_X6_sumOf : Ct mX6_sumOf 1 21 0 0 (nrmS S_X6_sumOf) := by
  refine ct_vm (own := RX6) (by decide +kernel) rfl ?_ ?_
  · intro as μ Q hS
    unfold S_X6_sumOf at hS
    split at hS
    · exact Nat.le_of_ble_eq_true rfl
    · exact hS.elim
  · intro as μ R hS
    unfold S_X6_sumOf at hS
    split at hS
    · exact body_X6_sumOf hS.1 hS.2
    · exact hS.elim
def smellV (v : TV) (s : Int) : Int := sm (fun a => if hasB s a = true then v 4 a * v 5 a else 0) (v 0 0)
def P_X6_smellOf (t s : Int) (μ : Mem) : Prop := TB μ t ∧ (0 ≤ s ∧ s < 256)
def F_X6_smellOf (t s : Int) (μ : Mem) : Int := smellV (tv μ t) s
def S_X6_smellOf : S0t := fun as μ Q => match as with
  | [(2, x0), (0, x1)] => P_X6_smellOf x0 x1 μ ∧ Q μ (some (kI (F_X6_smellOf x0 x1 μ)))
  | _ => False
theorem mono_X6_smellOf : Mono S_X6_smellOf := by
  intro as μ Q Q' h hS
  unfold S_X6_smellOf at hS ⊢
  split at hS
  · exact ⟨hS.1, h _ _ hS.2⟩
  · exact hS.elim
def iX6_smellOf : Inf := (kX6_smellOf, fTX6, pTX6, cTX6, lTX6, sTX6, [(110, 1, 2, 0, S_X10_isIn)])
theorem ok_X6_smellOf : infOK iX6_smellOf mX6_smellOf RX6 1 21 := ⟨kkX6_smellOf, fTX6_ok, pTX6_ok _, cTX6_ok, lTX6_ok, sTX6_ok, c_cons ⟨mX10_isIn, 0, 0, ct_X10_isIn, mmX10_isIn, stX10_isIn, lkX6_110, ⟨by decide, by decide⟩, mono_X10_isIn⟩ (c_nil)⟩
theorem mt_X6_smellOf : mtOK [] RX6 1 21 := mt_nil
abbrev V_X6_smellOf (R : Mem → Option AV → Prop) (pc : Nat) (lc : List (Nat × AV)) (μ : Mem) : Prop := VM mX6_smellOf RX6 1 21 R pc lc [] μ
set_option maxRecDepth 20000 in
theorem vc_X6_smellOf_0 {R : Mem → Option AV → Prop} {s t : Int} {μ : Mem} (ht : isT t) (H : V_X6_smellOf R 4 [(0, kR t), (1, kI s), (2, kI 0), (3, kI 0)] μ) : V_X6_smellOf R 0 [(0, kR t), (1, kI s)] μ := by
  refine vm_step2 mt_X6_smellOf ok_X6_smellOf [(4, [0, 1, 2, 3])] 1000 ?_
  show V_X6_smellOf R 4 [(0, kR t), (1, kI s), (2, kI 0), (3, kI 0)] μ
  exact H
set_option maxRecDepth 20000 in
theorem vc_X6_smellOf_4 {R : Mem → Option AV → Prop} {s sum a t : Int} {μ : Mem} (ht : isT t) (H : r32 a ∧ r32 (μ t 1) ∧ (((μ t 1) ≤ a) → R μ (some (kI sum))) ∧ (¬ ((μ t 1) ≤ a) → P_X10_isIn s a μ ∧ r32 (F_X10_isIn s a μ) ∧ (((F_X10_isIn s a μ) = 0) → V_X6_smellOf R 4 [(0, kR t), (1, kI s), (2, kI sum), (3, kI (a + 1))] μ) ∧ (¬ ((F_X10_isIn s a μ) = 0) → (0 ≤ a ∧ a < 8) ∧ (0 ≤ a ∧ a < 8) ∧ V_X6_smellOf R 4 [(0, kR t), (1, kI s), (2, kI (sum + ((μ (t + 3) a) * (μ (t + 4) a)))), (3, kI (a + 1))] μ))) : V_X6_smellOf R 4 [(0, kR t), (1, kI s), (2, kI sum), (3, kI a)] μ := by
  refine vm_step2 mt_X6_smellOf ok_X6_smellOf [(4, [0, 1, 2, 3])] 1000 ?_
  show isC t 7 ∧ (r32 a ∧ r32 (μ t 1)) ∧ (((μ t 1) ≤ a) → R μ (some (kI sum))) ∧ (¬ ((μ t 1) ≤ a) → P_X10_isIn s a μ ∧ r32 (F_X10_isIn s a μ) ∧ (((F_X10_isIn s a μ) = 0) → V_X6_smellOf R 4 [(0, kR t), (1, kI s), (2, kI sum), (3, kI (a + 1))] μ) ∧ (¬ ((F_X10_isIn s a μ) = 0) → isC t 7 ∧ inA (t + 3) 0 a ∧ isC t 7 ∧ inA (t + 4) 0 a ∧ V_X6_smellOf R 4 [(0, kR t), (1, kI s), (2, kI (sum + ((μ (t + 3) a) * (μ (t + 4) a)))), (3, kI (a + 1))] μ))
  exact ⟨isT_C ht, ⟨⟨H.1, H.2.1⟩, fun hc2 => (H.2.2.1 hc2), fun hc2 => ⟨(H.2.2.2 hc2).1, ⟨(H.2.2.2 hc2).2.1, fun hc1 => ((H.2.2.2 hc2).2.2.1 hc1), fun hc1 => ⟨isT_C ht, ⟨isArr.in (T_chance ht) ((H.2.2.2 hc2).2.2.2 hc1).1.1 ((H.2.2.2 hc2).2.2.2 hc1).1.2, ⟨isT_C ht, ⟨isArr.in (T_dog ht) ((H.2.2.2 hc2).2.2.2 hc1).2.1.1 ((H.2.2.2 hc2).2.2.2 hc1).2.1.2, ((H.2.2.2 hc2).2.2.2 hc1).2.2⟩⟩⟩⟩⟩⟩⟩⟩
theorem body_X6_smellOf {t s : Int} {μ : Mem} {R : Mem → Option AV → Prop} (h : P_X6_smellOf t s μ) (hR : R μ (some (kI (F_X6_smellOf t s μ)))) : V_X6_smellOf R 0 [(0, kR t), (1, kI s)] μ := by
  obtain ⟨⟨ht, ok⟩, hs⟩ := h
  have hp : 2 ≤ μ t 1 ∧ μ t 1 ≤ 8 := ok.1
  refine vc_X6_smellOf_0 ht ?_
  refine up_ind (P := fun a => V_X6_smellOf R 4 [(0, kR t), (1, kI s), (2, kI (sm (fun a => if hasB s a = true then tv μ t 4 a * tv μ t 5 a else 0) a)), (3, kI a)] μ) (lo := 0) (hi := μ t 1) ?_ ?_ 0 (by omega) (by omega)
  · intro a a0 a1 ih
    rw [sm_s a0] at ih
    refine vc_X6_smellOf_4 ht ?_
    rw [e4 μ t a0 (by omega), e5 μ t a0 (by omega)]
    refine ⟨rr (by omega), rr (by omega), fun c => absurd c (by omega), fun _ => ⟨⟨by omega, by omega⟩, ?_⟩⟩
    unfold F_X10_isIn
    by_cases hb : hasB s a = true
    · rw [if_pos hb] at ih ⊢
      exact ⟨rr (by omega), fun c => absurd c (by omega), fun _ => ⟨by omega, by omega, ih⟩⟩
    · rw [if_neg hb] at ih ⊢
      rw [Int.add_zero] at ih
      exact ⟨rr (by omega), fun _ => ih, fun c => absurd rfl c⟩
  · exact vc_X6_smellOf_4 ht ⟨rr (by omega), rr (by omega), fun _ => hR, fun c => absurd (Int.le_refl _) c⟩
theorem ct_X6_smellOf : Ct mX6_smellOf 1 21 0 0 (nrmS S_X6_smellOf) := by
  refine ct_vm (own := RX6) (by decide +kernel) rfl ?_ ?_
  · intro as μ Q hS
    unfold S_X6_smellOf at hS
    split at hS
    · exact Nat.le_of_ble_eq_true rfl
    · exact hS.elim
  · intro as μ R hS
    unfold S_X6_smellOf at hS
    split at hS
    · exact body_X6_smellOf hS.1 hS.2
    · exact hS.elim
