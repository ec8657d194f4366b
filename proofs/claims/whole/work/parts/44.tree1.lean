theorem e8z {μ : Mem} {t b : Int} (h : WY μ t) (h0 : 0 < tv μ t 0 0) (b0 : 0 ≤ b) (b1 : b < tv μ t 0 0) : μ (t + 2) b = wayV (tv μ t) 0 b := by
  have := e8 h (Int.le_refl 0) h0 b0 b1
  have e : 0 * 8 + b = b := by omega
  rwa [e] at this
/-- the place from which the way comes -/
def parV (v : TV) (a : Int) : Int := max 0 (frst (fun b => decide (v 7 (8 * a + b) ≠ 0 ∧ wayV v 0 b < wayV v 0 a)) (v 0 0))
def P_X8_parentOf (t a : Int) (μ : Mem) : Prop := TB μ t ∧ WY μ t ∧ 0 ≤ a ∧ a < tv μ t 0 0
def F_X8_parentOf (t a : Int) (μ : Mem) : Int := parV (tv μ t) a
def S_X8_parentOf : S0t := fun as μ Q => match as with
  | [(2, x0), (0, x1)] => P_X8_parentOf x0 x1 μ ∧ Q μ (some (kI (F_X8_parentOf x0 x1 μ)))
  | _ => False
theorem mono_X8_parentOf : Mono S_X8_parentOf := by
  intro as μ Q Q' h hS
  unfold S_X8_parentOf at hS ⊢
  split at hS
  · exact ⟨hS.1, h _ _ hS.2⟩
  · exact hS.elim
def iX8_parentOf : Inf := (kX8_parentOf, fTX8, pTX8, cTX8, lTX8, sTX8, [(31, 0, 2, 7, S_X7_hasLane)])
theorem ok_X8_parentOf : infOK iX8_parentOf mX8_parentOf RX8 1 22 := ⟨kkX8_parentOf, fTX8_ok, pTX8_ok _, cTX8_ok, lTX8_ok, sTX8_ok, c_cons ⟨mX7_hasLane, 0, 0, ct_X7_hasLane, mmX7_hasLane, vvX7_hasLane, lkX8_31, ⟨by decide, by decide⟩, ⟨_, _, rfl⟩, by decide, mono_X7_hasLane⟩ (c_nil)⟩
theorem mt_X8_parentOf : mtOK [] RX8 1 22 := mt_nil
abbrev V_X8_parentOf (R : Mem → Option AV → Prop) (pc : Nat) (lc : List (Nat × AV)) (μ : Mem) : Prop := VM mX8_parentOf RX8 1 22 R pc lc [] μ
set_option maxRecDepth 20000 in
theorem vc_X8_parentOf_0 {R : Mem → Option AV → Prop} {a t : Int} {μ : Mem} (ht : isT t) (H : V_X8_parentOf R 2 [(0, kR t), (1, kI a), (2, kI 0)] μ) : V_X8_parentOf R 0 [(0, kR t), (1, kI a)] μ := by
  refine vm_step2 mt_X8_parentOf ok_X8_parentOf [(2, [0, 1, 2])] 1000 ?_
  show V_X8_parentOf R 2 [(0, kR t), (1, kI a), (2, kI 0)] μ
  exact H
set_option maxRecDepth 20000 in
theorem vc_X8_parentOf_2 {R : Mem → Option AV → Prop} {a b t : Int} {μ : Mem} (ht : isT t) (H : r32 b ∧ r32 (μ t 1) ∧ (((μ t 1) ≤ b) → R μ (some (kI 0))) ∧ (¬ ((μ t 1) ≤ b) → P_X7_hasLane t a b μ ∧ r32 (F_X7_hasLane t a b μ) ∧ (((F_X7_hasLane t a b μ) = 0) → V_X8_parentOf R 2 [(0, kR t), (1, kI a), (2, kI (b + 1))] μ) ∧ (¬ ((F_X7_hasLane t a b μ) = 0) → (0 ≤ b ∧ b < 64) ∧ (0 ≤ a ∧ a < 64) ∧ r32 (μ (t + 2) b) ∧ r32 (μ (t + 2) a) ∧ (((μ (t + 2) a) ≤ (μ (t + 2) b)) → V_X8_parentOf R 2 [(0, kR t), (1, kI a), (2, kI (b + 1))] μ) ∧ (¬ ((μ (t + 2) a) ≤ (μ (t + 2) b)) → R μ (some (kI b)))))) : V_X8_parentOf R 2 [(0, kR t), (1, kI a), (2, kI b)] μ := by
  refine vm_step2 mt_X8_parentOf ok_X8_parentOf [(2, [0, 1, 2])] 1000 ?_
  show isC t 7 ∧ (r32 b ∧ r32 (μ t 1)) ∧ (((μ t 1) ≤ b) → R μ (some (kI 0))) ∧ (¬ ((μ t 1) ≤ b) → isC t 7 ∧ P_X7_hasLane t a b μ ∧ r32 (F_X7_hasLane t a b μ) ∧ (((F_X7_hasLane t a b μ) = 0) → V_X8_parentOf R 2 [(0, kR t), (1, kI a), (2, kI (b + 1))] μ) ∧ (¬ ((F_X7_hasLane t a b μ) = 0) → isC t 7 ∧ inA (t + 2) 0 b ∧ isC t 7 ∧ inA (t + 2) 0 a ∧ (r32 (μ (t + 2) b) ∧ r32 (μ (t + 2) a)) ∧ (((μ (t + 2) a) ≤ (μ (t + 2) b)) → V_X8_parentOf R 2 [(0, kR t), (1, kI a), (2, kI (b + 1))] μ) ∧ (¬ ((μ (t + 2) a) ≤ (μ (t + 2) b)) → R μ (some (kI b)))))
  exact ⟨isT_C ht, ⟨⟨H.1, H.2.1⟩, fun hc3 => (H.2.2.1 hc3), fun hc3 => ⟨isT_C ht, (H.2.2.2 hc3).1, ⟨(H.2.2.2 hc3).2.1, fun hc2 => ((H.2.2.2 hc3).2.2.1 hc2), fun hc2 => ⟨isT_C ht, ⟨isArr.in (T_ways ht) ((H.2.2.2 hc3).2.2.2 hc2).1.1 ((H.2.2.2 hc3).2.2.2 hc2).1.2, ⟨isT_C ht, ⟨isArr.in (T_ways ht) ((H.2.2.2 hc3).2.2.2 hc2).2.1.1 ((H.2.2.2 hc3).2.2.2 hc2).2.1.2, ⟨⟨((H.2.2.2 hc3).2.2.2 hc2).2.2.1, ((H.2.2.2 hc3).2.2.2 hc2).2.2.2.1⟩, fun hc1 => (((H.2.2.2 hc3).2.2.2 hc2).2.2.2.2.1 hc1), fun hc1 => (((H.2.2.2 hc3).2.2.2 hc2).2.2.2.2.2 hc1)⟩⟩⟩⟩⟩⟩⟩⟩⟩
theorem body_X8_parentOf {t a : Int} {μ : Mem} {R : Mem → Option AV → Prop} (h : P_X8_parentOf t a μ) (hR : R μ (some (kI (F_X8_parentOf t a μ)))) : V_X8_parentOf R 0 [(0, kR t), (1, kI a)] μ := by
  obtain ⟨⟨ht, ok⟩, hw, a0, a1⟩ := h
  have hp : 2 ≤ μ t 1 ∧ μ t 1 ≤ 8 := ok.1
  have hpe : tv μ t 0 0 = μ t 1 := rfl
  refine vc_X8_parentOf_0 ht ?_
  have key : ∀ b : Int, 0 ≤ b → b ≤ μ t 1 → (∀ c : Int, 0 ≤ c → c < b → decide (tv μ t 7 (8 * a + c) ≠ 0 ∧ wayV (tv μ t) 0 c < wayV (tv μ t) 0 a) = false) → V_X8_parentOf R 2 [(0, kR t), (1, kI a), (2, kI b)] μ := by
    refine up_ind (P := fun b => (∀ c : Int, 0 ≤ c → c < b → decide (tv μ t 7 (8 * a + c) ≠ 0 ∧ wayV (tv μ t) 0 c < wayV (tv μ t) 0 a) = false) → V_X8_parentOf R 2 [(0, kR t), (1, kI a), (2, kI b)] μ) ?_ ?_
    · intro b b0 b1 ih hn
      have w1 := hw 0 b (by omega) (by omega) b0 b1
      have w2 := hw 0 a (by omega) (by omega) a0 a1
      have nx : decide (tv μ t 7 (8 * a + b) ≠ 0 ∧ wayV (tv μ t) 0 b < wayV (tv μ t) 0 a) = false → V_X8_parentOf R 2 [(0, kR t), (1, kI a), (2, kI (b + 1))] μ := fun q => ih (fun c c0 c1 => by
        by_cases hc : c = b
        · rw [hc]; exact q
        · exact hn c c0 (by omega))
      refine vc_X8_parentOf_2 ht ?_
      rw [e8z hw (by omega) b0 b1, e8z hw (by omega) a0 a1]
      refine ⟨rr (by omega), rr (by omega), fun c => absurd c (by omega), fun _ => ⟨⟨⟨ht, ok⟩, by omega, by omega⟩, ?_⟩⟩
      unfold F_X7_hasLane
      by_cases hz : tv μ t 7 (8 * a + b) = 0
      · rw [if_pos hz]
        exact ⟨rr (by omega), fun _ => nx (by simp [hz]), fun c => absurd rfl c⟩
      · rw [if_neg hz]
        refine ⟨rr (by omega), fun c => absurd c (by omega), fun _ => ⟨by omega, by omega, rr (by omega), rr (by omega), fun c => nx (by simp; omega), fun c => r_eq hR ?_⟩⟩
        unfold F_X8_parentOf parV
        rw [frst_at b0 (show b < tv μ t 0 0 from b1) (by simp; exact ⟨hz, by omega⟩) hn]
        omega
    · intro hn
      refine vc_X8_parentOf_2 ht ⟨rr (by omega), rr (by omega), fun _ => r_eq hR ?_, fun c => absurd (Int.le_refl _) c⟩
      unfold F_X8_parentOf parV
      rw [hpe, frst_none (by omega) hn]
      omega
  exact key 0 (by omega) (by omega) (fun c c0 c1 => absurd c0 (by omega))
theorem ct_X8_parentOf : Ct mX8_parentOf 1 22 0 0 (nrmS S_X8_parentOf) := by
  refine ct_vm (own := RX8) (by decide +kernel) rfl ?_ ?_
  · intro as μ Q hS
    unfold S_X8_parentOf at hS
    split at hS
    · exact Nat.le_of_ble_eq_true rfl
    · exact hS.elim
  · intro as μ R hS
    unfold S_X8_parentOf at hS
    split at hS
    · exact body_X8_parentOf hS.1 hS.2
    · exact hS.elim
theorem par_in {v : TV} (ok : TVok v) (a : Int) : 0 ≤ parV v a ∧ parV v a < v 0 0 := by
  have hp := ok.1
  unfold parV
  rcases frst_cases (fun b => decide (v 7 (8 * a + b) ≠ 0 ∧ wayV v 0 b < wayV v 0 a)) (n := v 0 0) (by omega) with ⟨e, -⟩ | ⟨k, k0, k1, e, -⟩
  · rw [e]; omega
  · rw [e]; omega
/-- behind every place but the start comes a nearer one -/
theorem par_lt {v : TV} (ok : TVok v) (hj : joined v) {a : Int} (a0 : 0 < a) (a1 : a < v 0 0) : v 7 (8 * a + parV v a) ≠ 0 ∧ wayV v 0 (parV v a) < wayV v 0 a := by
  have hp := ok.1
  rcases frst_cases (fun b => decide (v 7 (8 * a + b) ≠ 0 ∧ wayV v 0 b < wayV v 0 a)) (n := v 0 0) (by omega) with ⟨-, h⟩ | ⟨k, k0, k1, e, h, -⟩
  · obtain ⟨b, hb, hba, hl, he⟩ := way_last ok hj (show (0 : Int) ≤ 0 by omega) (by omega) (show 0 ≤ a by omega) a1 (by omega)
    have hs := (ok.2.2.2.2.2.2.1 b a hb.1 (by omega) (by omega) (by omega)).1
    have := h b hb.1 hb.2
    have q := of_decide_eq_false this
    exact absurd ⟨by omega, by omega⟩ q
  · have q := of_decide_eq_true h
    unfold parV
    rw [e]
    have : max 0 k = k := by omega
    rw [this]
    exact q
def lenV (v : TV) (c : Int) : Int := wayV v 0 c - wayV v 0 (parV v c)
theorem len_bd {v : TV} (ok : TVok v) (hj : joined v) {a : Int} (a0 : 0 < a) (a1 : a < v 0 0) : 1 ≤ lenV v a ∧ lenV v a ≤ 20 := by
  have hp := ok.1
  have h := par_lt ok hj a0 a1
  have hi := par_in ok a
  have hs := (ok.2.2.2.2.2.2.1 a (parV v a) (by omega) (by omega) hi.1 (by omega)).1
  have h2 := way_step ok (s := 0) (a := a) (b := parV v a) (by omega) (by omega) (by omega) a1 hi.1 hi.2 (by rw [← hs]; exact h.1)
  have h3 := (ok.2.2.2.2.2.1 (8 * parV v a + a) (by omega) (by omega)).2
  unfold lenV
  omega
/-- whether p lies on c's way, within k places -/
def onN (v : TV) : Nat → Int → Int → Bool
  | 0, _, _ => false
  | k + 1, p, c => decide (c ≠ 0) && (decide (c = p) || onN v k p (parV v c))
theorem on_0 {v : TV} {k : Nat} {p : Int} : onN v k p 0 = false := by
  cases k <;> rfl
theorem on_s {v : TV} {k : Nat} {p c : Int} (h : c ≠ 0) : onN v (k + 1) p c = (decide (c = p) || onN v k p (parV v c)) := by
  show (decide (c ≠ 0) && _) = _
  rw [decide_eq_true h]
  rfl
theorem on_way {v : TV} (ok : TVok v) (hj : joined v) : ∀ (k : Nat) (p c : Int), 0 ≤ c → c < v 0 0 → onN v k p c = true → wayV v 0 p ≤ wayV v 0 c ∧ p ≠ 0
  | 0, _, _, _, _, h => by cases h
  | k + 1, p, c, c0, c1, h => by
    by_cases hc : c = 0
    · rw [hc, on_0] at h; cases h
    · rw [on_s hc] at h
      rcases Bool.or_eq_true _ _ |>.mp h with q | q
      · have := of_decide_eq_true q
        subst this
        exact ⟨Int.le_refl _, hc⟩
      · have hi := par_in ok c
        have := on_way ok hj k p (parV v c) hi.1 hi.2 q
        have := par_lt ok hj (show 0 < c by omega) c1
        omega
theorem on_ex {v : TV} (ok : TVok v) (hj : joined v) {k : Nat} {c : Int} (c0 : 0 < c) (c1 : c < v 0 0) : onN v k c (parV v c) = false := by
  cases h : onN v k c (parV v c)
  · rfl
  · have hi := par_in ok c
    have := on_way ok hj k c (parV v c) hi.1 hi.2 h
    have := par_lt ok hj c0 c1
    omega
/-- a branch: with the lane that leads to it -/
def brV (v : TV) (p : Int) : Int := sm (fun c => if onN v 8 p c = true then lenV v c else 0) (v 0 0)
def TreeR (v : TV) (μ : Mem) : Prop := ∀ a : Int, 0 ≤ a → a < v 0 0 → μ 196 a = parV v a ∧ μ 197 a = brV v a
def P_X8_grow (o t : Int) (μ : Mem) : Prop := o = 195 ∧ TB μ t ∧ WY μ t ∧ joined (tv μ t)
def Q_X8_grow (_ t : Int) (μ μ' : Mem) : Prop := TreeR (tv μ t) μ' ∧ ∀ z : Int, z ≠ 196 → z ≠ 197 → μ' z = μ z
def S_X8_grow : S0t := fun as μ Q => match as with
  | [(2, x0), (2, x1)] => P_X8_grow x0 x1 μ ∧ ∀ (μ' : Mem) , Q_X8_grow x0 x1 μ μ'  → Q μ' none
  | _ => False
theorem mono_X8_grow : Mono S_X8_grow := by
  intro as μ Q Q' h hS
  unfold S_X8_grow at hS ⊢
  split at hS
  · exact ⟨hS.1, fun μ' q => h _ _ (hS.2 _ q)⟩
  · exact hS.elim
def iX8_grow : Inf := (kX8_grow, fTX8, pTX8, cTX8, lTX8, sTX8, [(24, 1, 2, 0, S_X8_parentOf)])
theorem ok_X8_grow : infOK iX8_grow mX8_grow RX8 2 44 := ⟨kkX8_grow, fTX8_ok, pTX8_ok _, cTX8_ok, lTX8_ok, sTX8_ok, c_cons ⟨mX8_parentOf, 1, 22, ct_X8_parentOf, mmX8_parentOf, stX8_parentOf, lkX8_24, ⟨by decide, by decide⟩, mono_X8_parentOf⟩ (c_nil)⟩
theorem mt_X8_grow : mtOK [] RX8 2 44 := mt_nil
abbrev V_X8_grow (R : Mem → Option AV → Prop) (pc : Nat) (lc : List (Nat × AV)) (μ : Mem) : Prop := VM mX8_grow RX8 2 44 R pc lc [] μ
set_option maxRecDepth 20000 in
theorem vc_X8_grow_0 {R : Mem → Option AV → Prop} {t : Int} {μ : Mem} (ht : isT t) (H : V_X8_grow R 2 [(0, kR 195), (1, kR t), (2, kI 0)] μ) : V_X8_grow R 0 [(0, kR 195), (1, kR t)] μ := by
  refine vm_step2 mt_X8_grow ok_X8_grow [(2, [0, 1, 2]), (21, [0, 1, 2]), (28, [0, 1, 2]), (36, [0, 1, 2]), (69, [0, 1, 2, 3, 4, 5]), (92, [0, 1, 2, 3, 4, 5])] 1000 ?_
  show V_X8_grow R 2 [(0, kR 195), (1, kR t), (2, kI 0)] μ
  exact H
set_option maxRecDepth 20000 in
theorem vc_X8_grow_2 {R : Mem → Option AV → Prop} {a t : Int} {μ : Mem} (ht : isT t) (H : r32 a ∧ r32 (μ t 1) ∧ (((μ t 1) ≤ a) → V_X8_grow R 36 [(0, kR 195), (1, kR t), (2, kI 1)] μ) ∧ (¬ ((μ t 1) ≤ a) → P_X8_parentOf t a μ ∧ (0 ≤ a ∧ a < 8) ∧ V_X8_grow R 21 [(0, kR 195), (1, kR t), (2, kI a)] (updm μ 196 a (F_X8_parentOf t a μ)))) : V_X8_grow R 2 [(0, kR 195), (1, kR t), (2, kI a)] μ := by
  refine vm_step2 mt_X8_grow ok_X8_grow [(2, [0, 1, 2]), (21, [0, 1, 2]), (28, [0, 1, 2]), (36, [0, 1, 2]), (69, [0, 1, 2, 3, 4, 5]), (92, [0, 1, 2, 3, 4, 5])] 1000 ?_
  show isC t 7 ∧ (r32 a ∧ r32 (μ t 1)) ∧ (((μ t 1) ≤ a) → V_X8_grow R 36 [(0, kR 195), (1, kR t), (2, kI 1)] μ) ∧ (¬ ((μ t 1) ≤ a) → isC 195 8 ∧ P_X8_parentOf t a μ ∧ inA 196 0 a ∧ V_X8_grow R 21 [(0, kR 195), (1, kR t), (2, kI a)] (updm μ 196 a (F_X8_parentOf t a μ)))
  exact ⟨isT_C ht, ⟨⟨H.1, H.2.1⟩, fun hc1 => (H.2.2.1 hc1), fun hc1 => ⟨c_195, ⟨(H.2.2.2 hc1).1, ⟨isArr.in a_196 (H.2.2.2 hc1).2.1.1 (H.2.2.2 hc1).2.1.2, (H.2.2.2 hc1).2.2⟩⟩⟩⟩⟩
set_option maxRecDepth 20000 in
theorem vc_X8_grow_21 {R : Mem → Option AV → Prop} {a t : Int} {μ : Mem} (ht : isT t) (H : (0 ≤ a ∧ a < 8) ∧ V_X8_grow R 28 [(0, kR 195), (1, kR t), (2, kI a)] (updm μ 197 a 0)) : V_X8_grow R 21 [(0, kR 195), (1, kR t), (2, kI a)] μ := by
  refine vm_step2 mt_X8_grow ok_X8_grow [(2, [0, 1, 2]), (21, [0, 1, 2]), (28, [0, 1, 2]), (36, [0, 1, 2]), (69, [0, 1, 2, 3, 4, 5]), (92, [0, 1, 2, 3, 4, 5])] 1000 ?_
  show isC 195 8 ∧ inA 197 0 a ∧ V_X8_grow R 28 [(0, kR 195), (1, kR t), (2, kI a)] (updm μ 197 a 0)
  exact ⟨c_195, ⟨isArr.in a_197 H.1.1 H.1.2, H.2⟩⟩
set_option maxRecDepth 20000 in
theorem vc_X8_grow_28 {R : Mem → Option AV → Prop} {a t : Int} {μ : Mem} (ht : isT t) (H : V_X8_grow R 2 [(0, kR 195), (1, kR t), (2, kI (a + 1))] μ) : V_X8_grow R 28 [(0, kR 195), (1, kR t), (2, kI a)] μ := by
  refine vm_step2 mt_X8_grow ok_X8_grow [(2, [0, 1, 2]), (21, [0, 1, 2]), (28, [0, 1, 2]), (36, [0, 1, 2]), (69, [0, 1, 2, 3, 4, 5]), (92, [0, 1, 2, 3, 4, 5])] 1000 ?_
  show V_X8_grow R 2 [(0, kR 195), (1, kR t), (2, kI (a + 1))] μ
  exact H
set_option maxRecDepth 20000 in
theorem vc_X8_grow_36 {R : Mem → Option AV → Prop} {a t : Int} {μ : Mem} (ht : isT t) (H : r32 a ∧ r32 (μ t 1) ∧ (((μ t 1) ≤ a) → R μ none) ∧ (¬ ((μ t 1) ≤ a) → (0 ≤ a ∧ a < 64) ∧ (0 ≤ a ∧ a < 8) ∧ (0 ≤ (μ 196 a) ∧ (μ 196 a) < 64) ∧ V_X8_grow R 69 [(0, kR 195), (1, kR t), (2, kI a), (3, kI ((μ (t + 2) a) - (μ (t + 2) (μ 196 a)))), (4, kI a), (5, kI 0)] μ)) : V_X8_grow R 36 [(0, kR 195), (1, kR t), (2, kI a)] μ := by
  refine vm_step2 mt_X8_grow ok_X8_grow [(2, [0, 1, 2]), (21, [0, 1, 2]), (28, [0, 1, 2]), (36, [0, 1, 2]), (69, [0, 1, 2, 3, 4, 5]), (92, [0, 1, 2, 3, 4, 5])] 1000 ?_
  show isC t 7 ∧ (r32 a ∧ r32 (μ t 1)) ∧ (((μ t 1) ≤ a) → R μ none) ∧ (¬ ((μ t 1) ≤ a) → isC t 7 ∧ inA (t + 2) 0 a ∧ isC t 7 ∧ isC 195 8 ∧ inA 196 0 a ∧ inA (t + 2) 0 (μ 196 a) ∧ V_X8_grow R 69 [(0, kR 195), (1, kR t), (2, kI a), (3, kI ((μ (t + 2) a) - (μ (t + 2) (μ 196 a)))), (4, kI a), (5, kI 0)] μ)
  exact ⟨isT_C ht, ⟨⟨H.1, H.2.1⟩, fun hc2 => (H.2.2.1 hc2), fun hc2 => ⟨isT_C ht, ⟨isArr.in (T_ways ht) (H.2.2.2 hc2).1.1 (H.2.2.2 hc2).1.2, ⟨isT_C ht, ⟨c_195, ⟨isArr.in a_196 (H.2.2.2 hc2).2.1.1 (H.2.2.2 hc2).2.1.2, ⟨isArr.in (T_ways ht) (H.2.2.2 hc2).2.2.1.1 (H.2.2.2 hc2).2.2.1.2, (H.2.2.2 hc2).2.2.2⟩⟩⟩⟩⟩⟩⟩⟩
set_option maxRecDepth 20000 in
theorem vc_X8_grow_69 {R : Mem → Option AV → Prop} {a la p i t : Int} {μ : Mem} (ht : isT t) (H : r32 i ∧ (((8 : Int) ≤ i) → V_X8_grow R 36 [(0, kR 195), (1, kR t), (2, kI (a + 1))] μ) ∧ (¬ ((8 : Int) ≤ i) → r32 p ∧ ((p = 0) → V_X8_grow R 36 [(0, kR 195), (1, kR t), (2, kI (a + 1))] μ) ∧ (¬ (p = 0) → (0 ≤ p ∧ p < 8) ∧ (0 ≤ p ∧ p < 8) ∧ V_X8_grow R 92 [(0, kR 195), (1, kR t), (2, kI a), (3, kI la), (4, kI p), (5, kI i)] (updm μ 197 p ((μ 197 p) + la))))) : V_X8_grow R 69 [(0, kR 195), (1, kR t), (2, kI a), (3, kI la), (4, kI p), (5, kI i)] μ := by
  refine vm_step2 mt_X8_grow ok_X8_grow [(2, [0, 1, 2]), (21, [0, 1, 2]), (28, [0, 1, 2]), (36, [0, 1, 2]), (69, [0, 1, 2, 3, 4, 5]), (92, [0, 1, 2, 3, 4, 5])] 1000 ?_
  show (r32 i ∧ r32 (8 : Int)) ∧ (((8 : Int) ≤ i) → V_X8_grow R 36 [(0, kR 195), (1, kR t), (2, kI (a + 1))] μ) ∧ (¬ ((8 : Int) ≤ i) → r32 p ∧ ((p = 0) → V_X8_grow R 36 [(0, kR 195), (1, kR t), (2, kI (a + 1))] μ) ∧ (¬ (p = 0) → isC 195 8 ∧ inA 197 0 p ∧ inA 197 0 p ∧ V_X8_grow R 92 [(0, kR 195), (1, kR t), (2, kI a), (3, kI la), (4, kI p), (5, kI i)] (updm μ 197 p ((μ 197 p) + la))))
  exact ⟨⟨H.1, by unfold r32; omega⟩, fun hc4 => (H.2.1 hc4), fun hc4 => ⟨(H.2.2 hc4).1, fun hc3 => ((H.2.2 hc4).2.1 hc3), fun hc3 => ⟨c_195, ⟨isArr.in a_197 ((H.2.2 hc4).2.2 hc3).1.1 ((H.2.2 hc4).2.2 hc3).1.2, ⟨isArr.in a_197 ((H.2.2 hc4).2.2 hc3).2.1.1 ((H.2.2 hc4).2.2 hc3).2.1.2, ((H.2.2 hc4).2.2 hc3).2.2⟩⟩⟩⟩⟩
set_option maxRecDepth 20000 in
theorem vc_X8_grow_92 {R : Mem → Option AV → Prop} {a la p i t : Int} {μ : Mem} (ht : isT t) (H : (0 ≤ p ∧ p < 8) ∧ V_X8_grow R 69 [(0, kR 195), (1, kR t), (2, kI a), (3, kI la), (4, kI (μ 196 p)), (5, kI (i + 1))] μ) : V_X8_grow R 92 [(0, kR 195), (1, kR t), (2, kI a), (3, kI la), (4, kI p), (5, kI i)] μ := by
  refine vm_step2 mt_X8_grow ok_X8_grow [(2, [0, 1, 2]), (21, [0, 1, 2]), (28, [0, 1, 2]), (36, [0, 1, 2]), (69, [0, 1, 2, 3, 4, 5]), (92, [0, 1, 2, 3, 4, 5])] 1000 ?_
  show isC 195 8 ∧ inA 196 0 p ∧ V_X8_grow R 69 [(0, kR 195), (1, kR t), (2, kI a), (3, kI la), (4, kI (μ 196 p)), (5, kI (i + 1))] μ
  exact ⟨c_195, ⟨isArr.in a_196 H.1.1 H.1.2, H.2⟩⟩
theorem body_X8_grow {o t : Int} {μ : Mem} {R : Mem → Option AV → Prop} (h : P_X8_grow o t μ) (hR : ∀ μ' : Mem, Q_X8_grow o t μ μ' → R μ' none) : V_X8_grow R 0 [(0, kR o), (1, kR t)] μ := by
  obtain ⟨rfl, ⟨ht, ok⟩, hw, hj⟩ := h
  have hp : 2 ≤ μ t 1 ∧ μ t 1 ≤ 8 := ok.1
  have hpe : tv μ t 0 0 = μ t 1 := rfl
  have hT := isT_hi ht
  have fr : ∀ {m : Mem}, (∀ z : Int, z ≠ 196 → z ≠ 197 → m z = μ z) → ∀ z : Int, t ≤ z → z ≤ t + 9 → m z = μ z := fun h z z0 z1 => h z (by omega) (by omega)
  have wy : ∀ {m : Mem}, (∀ z : Int, z ≠ 196 → z ≠ 197 → m z = μ z) → WY m t := fun {m} h => by
    have e := tv_frame (fr h)
    unfold WY
    rw [e, h (t + 2) (by omega) (by omega)]
    exact hw
  refine vc_X8_grow_0 ht ?_
  -- the branches
  have pc : ∀ c : Int, 1 ≤ c → c ≤ μ t 1 → ∀ m : Mem, (∀ z : Int, z ≠ 196 → z ≠ 197 → m z = μ z) → (∀ b : Int, 0 ≤ b → b < μ t 1 → m 196 b = parV (tv μ t) b ∧ m 197 b = sm (fun c => if onN (tv μ t) 8 b c = true then lenV (tv μ t) c else 0) c) → V_X8_grow R 36 [(0, kR 195), (1, kR t), (2, kI c)] m := by
    refine up_ind (P := fun c => ∀ m : Mem, (∀ z : Int, z ≠ 196 → z ≠ 197 → m z = μ z) → (∀ b : Int, 0 ≤ b → b < μ t 1 → m 196 b = parV (tv μ t) b ∧ m 197 b = sm (fun c => if onN (tv μ t) 8 b c = true then lenV (tv μ t) c else 0) c) → V_X8_grow R 36 [(0, kR 195), (1, kR t), (2, kI c)] m) ?_ ?_
    · intro c c0 c1 ih m hf hh
      have e1 : m t 1 = μ t 1 := by rw [hf t (by omega) (by omega)]
      have etv := tv_frame (fr hf)
      have hcp := par_in ok c
      -- up c's way
      have pu : ∀ (k : Nat) (i q : Int) (m : Mem), i + k = 8 → 0 ≤ i → (0 ≤ q ∧ q < μ t 1) → (∀ z : Int, z ≠ 196 → z ≠ 197 → m z = μ z) → (∀ b : Int, 0 ≤ b → b < μ t 1 → m 196 b = parV (tv μ t) b ∧ m 197 b + (if onN (tv μ t) k b q = true then lenV (tv μ t) c else 0) = sm (fun c => if onN (tv μ t) 8 b c = true then lenV (tv μ t) c else 0) (c + 1)) → V_X8_grow R 69 [(0, kR 195), (1, kR t), (2, kI c), (3, kI (lenV (tv μ t) c)), (4, kI q), (5, kI i)] m := by
        intro k
        induction k with
        | zero =>
          intro i q m hik i0 hq hf hh
          refine vc_X8_grow_69 ht ⟨rr (by omega), fun _ => ih m hf (fun b b0 b1 => ?_), fun cc => absurd (show (8 : Int) ≤ i by omega) cc⟩
          have := hh b b0 b1
          exact ⟨this.1, by rw [← this.2]; simp [onN]⟩
        | succ k ihk =>
          intro i q m hik i0 hq hf hh
          refine vc_X8_grow_69 ht ⟨rr (by omega), fun cc => absurd cc (by omega), fun _ => ⟨rr (by omega), fun hq0 => ih m hf (fun b b0 b1 => ?_), fun hq0 => ⟨by omega, by omega, vc_X8_grow_92 ht ⟨by omega, ?_⟩⟩⟩⟩
          · have := hh b b0 b1
            rw [hq0, on_0] at this
            exact ⟨this.1, by rw [← this.2]; simp⟩
          · have hqp := par_in ok q
            have e6 : updm m 197 q (m 197 q + lenV (tv μ t) c) 196 q = parV (tv μ t) q := by rw [ru_ne (by omega)]; exact (hh q hq.1 hq.2).1
            rw [e6]
            refine ihk (i + 1) (parV (tv μ t) q) _ (by omega) (by omega) hqp (fun z z0 z1 => by rw [ru_ne z1]; exact hf z z0 z1) (fun b b0 b1 => ?_)
            have := hh b b0 b1
            rw [on_s hq0] at this
            refine ⟨by rw [ru_ne (by omega)]; exact this.1, ?_⟩
            rw [← this.2, ru_eq]
            by_cases hb : b = q
            · subst hb
              rw [r1_eq, on_ex ok hj (by omega) hq.2]
              simp
            · rw [r1_ne hb, decide_eq_false (show ¬ q = b from fun e => hb e.symm), Bool.false_or]
      refine vc_X8_grow_36 ht ?_
      have e6 : m 196 c = parV (tv μ t) c := (hh c (by omega) c1).1
      rw [e1, e6, hf (t + 2) (by omega) (by omega), e8z hw (by omega) (show 0 ≤ c by omega) c1, e8z hw (by omega) hcp.1 hcp.2]
      refine ⟨rr (by omega), rr (by omega), fun q => absurd q (by omega), fun _ => ⟨by omega, by omega, by omega, ?_⟩⟩
      refine pu 8 0 c m (by omega) (by omega) (by omega) hf (fun b b0 b1 => ?_)
      have := hh b b0 b1
      exact ⟨this.1, by rw [sm_s (by omega), this.2]⟩
    · intro m hf hh
      have e1 : m t 1 = μ t 1 := by rw [hf t (by omega) (by omega)]
      refine vc_X8_grow_36 ht ?_
      rw [e1]
      exact ⟨rr (by omega), rr (by omega), fun _ => hR m ⟨hh, hf⟩, fun q => absurd (Int.le_refl _) q⟩
  -- the fathers
  have pa : ∀ a : Int, 0 ≤ a → a ≤ μ t 1 → ∀ m : Mem, (∀ z : Int, z ≠ 196 → z ≠ 197 → m z = μ z) → (∀ b : Int, 0 ≤ b → b < a → m 196 b = parV (tv μ t) b ∧ m 197 b = 0) → V_X8_grow R 2 [(0, kR 195), (1, kR t), (2, kI a)] m := by
    refine up_ind (P := fun a => ∀ m : Mem, (∀ z : Int, z ≠ 196 → z ≠ 197 → m z = μ z) → (∀ b : Int, 0 ≤ b → b < a → m 196 b = parV (tv μ t) b ∧ m 197 b = 0) → V_X8_grow R 2 [(0, kR 195), (1, kR t), (2, kI a)] m) ?_ ?_
    · intro a a0 a1 ih m hf hh
      have e1 : m t 1 = μ t 1 := by rw [hf t (by omega) (by omega)]
      have etv := tv_frame (fr hf)
      refine vc_X8_grow_2 ht ?_
      unfold P_X8_parentOf F_X8_parentOf
      rw [etv, e1]
      refine ⟨rr (by omega), rr (by omega), fun q => absurd q (by omega), fun _ => ⟨⟨TB_frame ⟨ht, ok⟩ (fr hf), wy hf, a0, a1⟩, by omega, vc_X8_grow_21 ht ⟨by omega, vc_X8_grow_28 ht ?_⟩⟩⟩
      refine ih _ (fun z z0 z1 => by rw [ru_ne z1, ru_ne z0]; exact hf z z0 z1) (fun b b0 b1 => ?_)
      rw [ru_ne (by omega), ru_eq, ru_eq, ru_ne (by omega)]
      by_cases hb : b = a
      · rw [hb, r1_eq, r1_eq]; exact ⟨rfl, rfl⟩
      · rw [r1_ne hb, r1_ne hb]; exact hh b b0 (by omega)
    · intro m hf hh
      have e1 : m t 1 = μ t 1 := by rw [hf t (by omega) (by omega)]
      refine vc_X8_grow_2 ht ?_
      rw [e1]
      refine ⟨rr (by omega), rr (by omega), fun _ => pc 1 (by omega) (by omega) m hf (fun b b0 b1 => ?_), fun q => absurd (Int.le_refl _) q⟩
      refine ⟨(hh b b0 b1).1, ?_⟩
      rw [(hh b b0 b1).2]
      show (0 : Int) = 0 + (if onN (tv μ t) 8 b 0 = true then lenV (tv μ t) 0 else 0)
      rw [on_0]
      simp
  exact pa 0 (by omega) (by omega) μ (fun _ _ _ => rfl) (fun b b0 b1 => absurd b0 (by omega))
theorem ct_X8_grow : Ct mX8_grow 2 44 0 0 (nrmS S_X8_grow) := by
  refine ct_vm (own := RX8) (by decide +kernel) rfl ?_ ?_
  · intro as μ Q hS
    unfold S_X8_grow at hS
    split at hS
    · exact Nat.le_of_ble_eq_true rfl
    · exact hS.elim
  · intro as μ R hS
    unfold S_X8_grow at hS
    split at hS
    · exact body_X8_grow hS.1 hS.2
    · exact hS.elim
def bsM (μ : Mem) (n p : Int) : Int := sm (fun a => if a ≠ 0 ∧ μ 196 a = p then μ 197 a else 0) n
def P_X8_branchesAt (o t p : Int) (μ : Mem) : Prop := o = 195 ∧ isT t ∧ (2 ≤ μ t 1 ∧ μ t 1 ≤ 8) ∧ (∀ a : Int, 0 ≤ a → a < μ t 1 → r32 (μ 196 a)) ∧ r32 p
def F_X8_branchesAt (_ t p : Int) (μ : Mem) : Int := bsM μ (μ t 1) p
def S_X8_branchesAt : S0t := fun as μ Q => match as with
  | [(2, x0), (2, x1), (0, x2)] => P_X8_branchesAt x0 x1 x2 μ ∧ Q μ (some (kI (F_X8_branchesAt x0 x1 x2 μ)))
  | _ => False
theorem mono_X8_branchesAt : Mono S_X8_branchesAt := by
  intro as μ Q Q' h hS
  unfold S_X8_branchesAt at hS ⊢
  split at hS
  · exact ⟨hS.1, h _ _ hS.2⟩
  · exact hS.elim
def iX8_branchesAt : Inf := (kX8_branchesAt, fTX8, pTX8, cTX8, lTX8, sTX8, [])
theorem ok_X8_branchesAt : infOK iX8_branchesAt mX8_branchesAt RX8 0 0 := ⟨kkX8_branchesAt, fTX8_ok, pTX8_ok _, cTX8_ok, lTX8_ok, sTX8_ok, c_nil⟩
theorem mt_X8_branchesAt : mtOK [] RX8 0 0 := mt_nil
abbrev V_X8_branchesAt (R : Mem → Option AV → Prop) (pc : Nat) (lc : List (Nat × AV)) (μ : Mem) : Prop := VM mX8_branchesAt RX8 0 0 R pc lc [] μ
set_option maxRecDepth 20000 in
theorem vc_X8_branchesAt_0 {R : Mem → Option AV → Prop} {p t : Int} {μ : Mem} (ht : isT t) (H : V_X8_branchesAt R 5 [(0, kR 195), (1, kR t), (2, kI p), (3, kI 0), (4, kI 1)] μ) : V_X8_branchesAt R 0 [(0, kR 195), (1, kR t), (2, kI p)] μ := by
  refine vm_step2 mt_X8_branchesAt ok_X8_branchesAt [(5, [0, 1, 2, 3, 4])] 1000 ?_
  show V_X8_branchesAt R 5 [(0, kR 195), (1, kR t), (2, kI p), (3, kI 0), (4, kI 1)] μ
  exact H
set_option maxRecDepth 20000 in
theorem vc_X8_branchesAt_5 {R : Mem → Option AV → Prop} {p sum a t : Int} {μ : Mem} (ht : isT t) (H : r32 a ∧ r32 (μ t 1) ∧ (((μ t 1) ≤ a) → R μ (some (kI sum))) ∧ (¬ ((μ t 1) ≤ a) → (0 ≤ a ∧ a < 8) ∧ r32 (μ 196 a) ∧ r32 p ∧ ((¬ (μ 196 a) = p) → V_X8_branchesAt R 5 [(0, kR 195), (1, kR t), (2, kI p), (3, kI sum), (4, kI (a + 1))] μ) ∧ (¬ (¬ (μ 196 a) = p) → (0 ≤ a ∧ a < 8) ∧ V_X8_branchesAt R 5 [(0, kR 195), (1, kR t), (2, kI p), (3, kI (sum + (μ 197 a))), (4, kI (a + 1))] μ))) : V_X8_branchesAt R 5 [(0, kR 195), (1, kR t), (2, kI p), (3, kI sum), (4, kI a)] μ := by
  refine vm_step2 mt_X8_branchesAt ok_X8_branchesAt [(5, [0, 1, 2, 3, 4])] 1000 ?_
  show isC t 7 ∧ (r32 a ∧ r32 (μ t 1)) ∧ (((μ t 1) ≤ a) → R μ (some (kI sum))) ∧ (¬ ((μ t 1) ≤ a) → isC 195 8 ∧ inA 196 0 a ∧ (r32 (μ 196 a) ∧ r32 p) ∧ ((¬ (μ 196 a) = p) → V_X8_branchesAt R 5 [(0, kR 195), (1, kR t), (2, kI p), (3, kI sum), (4, kI (a + 1))] μ) ∧ (¬ (¬ (μ 196 a) = p) → isC 195 8 ∧ inA 197 0 a ∧ V_X8_branchesAt R 5 [(0, kR 195), (1, kR t), (2, kI p), (3, kI (sum + (μ 197 a))), (4, kI (a + 1))] μ))
  exact ⟨isT_C ht, ⟨⟨H.1, H.2.1⟩, fun hc2 => (H.2.2.1 hc2), fun hc2 => ⟨c_195, ⟨isArr.in a_196 (H.2.2.2 hc2).1.1 (H.2.2.2 hc2).1.2, ⟨⟨(H.2.2.2 hc2).2.1, (H.2.2.2 hc2).2.2.1⟩, fun hc1 => ((H.2.2.2 hc2).2.2.2.1 hc1), fun hc1 => ⟨c_195, ⟨isArr.in a_197 ((H.2.2.2 hc2).2.2.2.2 hc1).1.1 ((H.2.2.2 hc2).2.2.2.2 hc1).1.2, ((H.2.2.2 hc2).2.2.2.2 hc1).2⟩⟩⟩⟩⟩⟩⟩
theorem body_X8_branchesAt {o t p : Int} {μ : Mem} {R : Mem → Option AV → Prop} (h : P_X8_branchesAt o t p μ) (hR : R μ (some (kI (F_X8_branchesAt o t p μ)))) : V_X8_branchesAt R 0 [(0, kR o), (1, kR t), (2, kI p)] μ := by
  obtain ⟨rfl, ht, hp, h6, hr⟩ := h
  refine vc_X8_branchesAt_0 ht ?_
  have key : ∀ a : Int, 1 ≤ a → a ≤ μ t 1 → V_X8_branchesAt R 5 [(0, kR 195), (1, kR t), (2, kI p), (3, kI (bsM μ a p)), (4, kI a)] μ := by
    refine up_ind (P := fun a => V_X8_branchesAt R 5 [(0, kR 195), (1, kR t), (2, kI p), (3, kI (bsM μ a p)), (4, kI a)] μ) ?_ ?_
    · intro a a0 a1 ih
      have e : bsM μ (a + 1) p = bsM μ a p + (if a ≠ 0 ∧ μ 196 a = p then μ 197 a else 0) := sm_s (by omega)
      rw [e] at ih
      refine vc_X8_branchesAt_5 ht ⟨rr (by omega), rr (by omega), fun c => absurd c (by omega), fun _ => ⟨by omega, h6 a (by omega) a1, hr, fun c => ?_, fun c => ⟨by omega, ?_⟩⟩⟩
      · rw [if_neg (by omega), Int.add_zero] at ih; exact ih
      · rw [if_pos (by omega)] at ih; exact ih
    · exact vc_X8_branchesAt_5 ht ⟨rr (by omega), rr (by omega), fun _ => hR, fun c => absurd (Int.le_refl _) c⟩
  have e0 : bsM μ 1 p = 0 := by
    show (0 : Int) + (if (0 : Int) ≠ 0 ∧ μ 196 0 = p then μ 197 0 else 0) = 0
    rw [if_neg (fun q => q.1 rfl)]; rfl
  have := key 1 (by omega) (by omega)
  rw [e0] at this
  exact this
theorem ct_X8_branchesAt : Ct mX8_branchesAt 0 0 0 0 (nrmS S_X8_branchesAt) := by
  refine ct_vm (own := RX8) (by decide +kernel) rfl ?_ ?_
  · intro as μ Q hS
    unfold S_X8_branchesAt at hS
    split at hS
    · exact Nat.le_of_ble_eq_true rfl
    · exact hS.elim
  · intro as μ R hS
    unfold S_X8_branchesAt at hS
    split at hS
    · exact body_X8_branchesAt hS.1 hS.2
    · exact hS.elim
