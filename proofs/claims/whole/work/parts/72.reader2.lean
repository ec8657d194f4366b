/-- the tokens, as they lie in the reader -/
def TokR (μ : Mem) (tx : Int → Int) (n : Int) : Prop := ∃ nt : Int, (0 ≤ nt ∧ nt ≤ 500) ∧ μ 145 3 = nt + 1 ∧ (∀ i : Int, 0 ≤ i → i < nt → stT tx n i < n) ∧ stT tx n nt = n ∧ ∀ i : Int, 0 ≤ i → i ≤ nt → μ 146 i = KT tx n i ∧ μ 147 i = stT tx n i ∧ (i < nt → μ 148 i = VT tx n i)
def P_X5_cut (o z n : Int) (μ : Mem) : Prop := o = 145 ∧ z = 2 ∧ (0 ≤ n ∧ n ≤ 500) ∧ TapeR μ
def Q_X5_cut (_ _ n : Int) (μ μ' : Mem) : Prop := TokR μ' (μ 2) n ∧ (∀ f : Int, f ≠ 3 → μ' 145 f = μ 145 f) ∧ ∀ y : Int, (y < 145 ∨ 148 < y) → μ' y = μ y
def S_X5_cut : S0t := fun as μ Q => match as with
  | [(2, x0), (2, x1), (0, x2)] => P_X5_cut x0 x1 x2 μ ∧ ∀ (μ' : Mem) , Q_X5_cut x0 x1 x2 μ μ'  → Q μ' none
  | _ => False
theorem mono_X5_cut : Mono S_X5_cut := by
  intro as μ Q Q' h hS
  unfold S_X5_cut at hS ⊢
  split at hS
  · exact ⟨hS.1, fun μ' q => h _ _ (hS.2 _ q)⟩
  · exact hS.elim
def iX5_cut : Inf := (kX5_cut, fTX5, pTX5, cTX5, lTX5, sTX5, [(63, 0, 3, 5, S_X5_add), (53, 1, 3, 0, S_X5_endOfToken), (57, 1, 3, 0, S_X5_kindOf), (60, 1, 3, 0, S_X5_valueOf)])
theorem ok_X5_cut : infOK iX5_cut mX5_cut RX5 2 46 := ⟨kkX5_cut, fTX5_ok, pTX5_ok _, cTX5_ok, lTX5_ok, sTX5_ok, c_cons ⟨mX5_add, 0, 0, ct_X5_add, mmX5_add, vvX5_add, lkX5_63, ⟨by decide, by decide⟩, ⟨_, _, rfl⟩, by decide, mono_X5_add⟩ (c_cons ⟨mX5_endOfToken, 1, 20, ct_X5_endOfToken, mmX5_endOfToken, stX5_endOfToken, lkX5_53, ⟨by decide, by decide⟩, mono_X5_endOfToken⟩ (c_cons ⟨mX5_kindOf, 1, 24, ct_X5_kindOf, mmX5_kindOf, stX5_kindOf, lkX5_57, ⟨by decide, by decide⟩, mono_X5_kindOf⟩ (c_cons ⟨mX5_valueOf, 0, 0, ct_X5_valueOf, mmX5_valueOf, stX5_valueOf, lkX5_60, ⟨by decide, by decide⟩, mono_X5_valueOf⟩ (c_nil))))⟩
theorem mt_X5_cut : mtOK [] RX5 2 46 := mt_nil
abbrev V_X5_cut (R : Mem → Option AV → Prop) (pc : Nat) (lc : List (Nat × AV)) (μ : Mem) : Prop := VM mX5_cut RX5 2 46 R pc lc [] μ
set_option maxRecDepth 20000 in
theorem vc_X5_cut_0 {R : Mem → Option AV → Prop} {n : Int} {μ : Mem} (H : V_X5_cut R 5 [(0, kR 145), (1, kR 2), (2, kI n)] (updm μ 145 3 0)) : V_X5_cut R 0 [(0, kR 145), (1, kR 2), (2, kI n)] μ := by
  refine vm_step2 mt_X5_cut ok_X5_cut [(5, [0, 1, 2]), (8, [0, 1, 2, 4]), (65, [0, 1, 2, 3])] 1000 ?_
  show isC 145 5 ∧ 0 = 0 ∧ True ∧ V_X5_cut R 5 [(0, kR 145), (1, kR 2), (2, kI n)] (updm μ 145 3 0)
  exact ⟨c_145, rfl, trivial, H⟩
set_option maxRecDepth 20000 in
theorem vc_X5_cut_5 {R : Mem → Option AV → Prop} {n : Int} {μ : Mem} (H : V_X5_cut R 8 [(0, kR 145), (1, kR 2), (2, kI n), (4, kI 0)] μ) : V_X5_cut R 5 [(0, kR 145), (1, kR 2), (2, kI n)] μ := by
  refine vm_step2 mt_X5_cut ok_X5_cut [(5, [0, 1, 2]), (8, [0, 1, 2, 4]), (65, [0, 1, 2, 3])] 1000 ?_
  show V_X5_cut R 8 [(0, kR 145), (1, kR 2), (2, kI n), (4, kI 0)] μ
  exact H
set_option maxRecDepth 20000 in
theorem vc_X5_cut_8 {R : Mem → Option AV → Prop} {n p : Int} {μ : Mem} (H : r32 p ∧ r32 n ∧ ((n ≤ p) → P_X5_add 145 0 n 0 μ ∧ (∀ (μ1 : Mem), Q_X5_add 145 0 n 0 μ μ1 → R μ1 none)) ∧ (¬ (n ≤ p) → (0 ≤ p ∧ p < 500) ∧ r32 (μ 2 p) ∧ (((μ 2 p) = (32 : Int)) → V_X5_cut R 65 [(0, kR 145), (1, kR 2), (2, kI n), (3, kI (p + 1))] μ) ∧ (¬ ((μ 2 p) = (32 : Int)) → (0 ≤ p ∧ p < 500) ∧ r32 (μ 2 p) ∧ (((μ 2 p) = (10 : Int)) → V_X5_cut R 65 [(0, kR 145), (1, kR 2), (2, kI n), (3, kI (p + 1))] μ) ∧ (¬ ((μ 2 p) = (10 : Int)) → P_X5_endOfToken 2 p n μ ∧ P_X5_kindOf 2 p (F_X5_endOfToken 2 p n μ) μ ∧ P_X5_valueOf 2 p (F_X5_endOfToken 2 p n μ) μ ∧ P_X5_add 145 (F_X5_kindOf 2 p (F_X5_endOfToken 2 p n μ) μ) p (F_X5_valueOf 2 p (F_X5_endOfToken 2 p n μ) μ) μ ∧ (∀ (μ4 : Mem), Q_X5_add 145 (F_X5_kindOf 2 p (F_X5_endOfToken 2 p n μ) μ) p (F_X5_valueOf 2 p (F_X5_endOfToken 2 p n μ) μ) μ μ4 → V_X5_cut R 65 [(0, kR 145), (1, kR 2), (2, kI n), (3, kI (F_X5_endOfToken 2 p n μ))] μ4))))) : V_X5_cut R 8 [(0, kR 145), (1, kR 2), (2, kI n), (4, kI p)] μ := by
  refine vm_step2 mt_X5_cut ok_X5_cut [(5, [0, 1, 2]), (8, [0, 1, 2, 4]), (65, [0, 1, 2, 3])] 1000 ?_
  show (r32 p ∧ r32 n) ∧ ((n ≤ p) → isC 145 5 ∧ P_X5_add 145 0 n 0 μ ∧ (∀ (μ1 : Mem), Q_X5_add 145 0 n 0 μ μ1 → R μ1 none)) ∧ (¬ (n ≤ p) → (inA 2 2 p ∨ inA 2 3 p) ∧ (r32 (μ 2 p) ∧ r32 (32 : Int)) ∧ (((μ 2 p) = (32 : Int)) → V_X5_cut R 65 [(0, kR 145), (1, kR 2), (2, kI n), (3, kI (p + 1))] μ) ∧ (¬ ((μ 2 p) = (32 : Int)) → (inA 2 2 p ∨ inA 2 3 p) ∧ (r32 (μ 2 p) ∧ r32 (10 : Int)) ∧ (((μ 2 p) = (10 : Int)) → V_X5_cut R 65 [(0, kR 145), (1, kR 2), (2, kI n), (3, kI (p + 1))] μ) ∧ (¬ ((μ 2 p) = (10 : Int)) → P_X5_endOfToken 2 p n μ ∧ P_X5_kindOf 2 p (F_X5_endOfToken 2 p n μ) μ ∧ P_X5_valueOf 2 p (F_X5_endOfToken 2 p n μ) μ ∧ isC 145 5 ∧ P_X5_add 145 (F_X5_kindOf 2 p (F_X5_endOfToken 2 p n μ) μ) p (F_X5_valueOf 2 p (F_X5_endOfToken 2 p n μ) μ) μ ∧ (∀ (μ4 : Mem), Q_X5_add 145 (F_X5_kindOf 2 p (F_X5_endOfToken 2 p n μ) μ) p (F_X5_valueOf 2 p (F_X5_endOfToken 2 p n μ) μ) μ μ4 → V_X5_cut R 65 [(0, kR 145), (1, kR 2), (2, kI n), (3, kI (F_X5_endOfToken 2 p n μ))] μ4))))
  exact ⟨⟨H.1, H.2.1⟩, fun hc9 => ⟨c_145, (H.2.2.1 hc9).1, fun μ1 hq3 => ((H.2.2.1 hc9).2 μ1 hq3)⟩, fun hc9 => ⟨Or.inl (isArr.in a_2 (H.2.2.2 hc9).1.1 (H.2.2.2 hc9).1.2), ⟨⟨(H.2.2.2 hc9).2.1, by unfold r32; omega⟩, fun hc8 => ((H.2.2.2 hc9).2.2.1 hc8), fun hc8 => ⟨Or.inl (isArr.in a_2 ((H.2.2.2 hc9).2.2.2 hc8).1.1 ((H.2.2.2 hc9).2.2.2 hc8).1.2), ⟨⟨((H.2.2.2 hc9).2.2.2 hc8).2.1, by unfold r32; omega⟩, fun hc7 => (((H.2.2.2 hc9).2.2.2 hc8).2.2.1 hc7), fun hc7 => ⟨(((H.2.2.2 hc9).2.2.2 hc8).2.2.2 hc7).1, ⟨(((H.2.2.2 hc9).2.2.2 hc8).2.2.2 hc7).2.1, ⟨(((H.2.2.2 hc9).2.2.2 hc8).2.2.2 hc7).2.2.1, ⟨c_145, (((H.2.2.2 hc9).2.2.2 hc8).2.2.2 hc7).2.2.2.1, fun μ4 hq6 => ((((H.2.2.2 hc9).2.2.2 hc8).2.2.2 hc7).2.2.2.2 μ4 hq6)⟩⟩⟩⟩⟩⟩⟩⟩⟩
set_option maxRecDepth 20000 in
theorem vc_X5_cut_65 {R : Mem → Option AV → Prop} {n nx : Int} {μ : Mem} (H : V_X5_cut R 8 [(0, kR 145), (1, kR 2), (2, kI n), (4, kI nx)] μ) : V_X5_cut R 65 [(0, kR 145), (1, kR 2), (2, kI n), (3, kI nx)] μ := by
  refine vm_step2 mt_X5_cut ok_X5_cut [(5, [0, 1, 2]), (8, [0, 1, 2, 4]), (65, [0, 1, 2, 3])] 1000 ?_
  show V_X5_cut R 8 [(0, kR 145), (1, kR 2), (2, kI n), (4, kI nx)] μ
  exact H
theorem body_X5_cut {o z n : Int} {μ : Mem} {R : Mem → Option AV → Prop} (h : P_X5_cut o z n μ) (hR : ∀ μ' : Mem, Q_X5_cut o z n μ μ' → R μ' none) : V_X5_cut R 0 [(0, kR o), (1, kR z), (2, kI n)] μ := by
  obtain ⟨rfl, rfl, hn, ht⟩ := h
  unfold Q_X5_cut at hR
  generalize htx : μ 2 = tx at hR
  have hB : ∀ (m : Mem) (i : Int), m 145 3 = i → ∀ k s x : Int, ∀ m' : Mem, Q_X5_add 145 k s x m m' → m' 145 3 = i + 1 ∧ m' 146 i = k ∧ m' 147 i = s ∧ m' 148 i = x ∧ (∀ j : Int, j ≠ i → m' 146 j = m 146 j ∧ m' 147 j = m 147 j ∧ m' 148 j = m 148 j) ∧ (∀ f : Int, f ≠ 3 → m' 145 f = m 145 f) ∧ ∀ y : Int, (y < 145 ∨ 148 < y) → m' y = m y := by
    intro m i hi k s x m' hq
    obtain ⟨q1, q2, q3, q4, q5⟩ := hq
    rw [hi] at q1 q2 q3 q4
    refine ⟨by rw [q4, r1_eq], by rw [q1, r1_eq], by rw [q2, r1_eq], by rw [q3, r1_eq], fun j hj => ⟨by rw [q1, r1_ne hj], by rw [q2, r1_ne hj], by rw [q3, r1_ne hj]⟩, fun f hf => by rw [q4, r1_ne hf], q5⟩
  have key : ∀ d : Nat, ∀ p i : Int, n - p ≤ d → 0 ≤ p → p ≤ n → 0 ≤ i → i ≤ p → skpT tx p n = stT tx n i → ∀ m : Mem, m 145 3 = i → (∀ f : Int, f ≠ 3 → m 145 f = μ 145 f) → (∀ y : Int, (y < 145 ∨ 148 < y) → m y = μ y) → (∀ j : Int, 0 ≤ j → j < i → stT tx n j < n ∧ m 146 j = KT tx n j ∧ m 147 j = stT tx n j ∧ m 148 j = VT tx n j) → V_X5_cut R 8 [(0, kR 145), (1, kR 2), (2, kI n), (4, kI p)] m := by
    intro d
    induction d with
    | zero =>
      intro p i hd p0 p1 i0 i1 hs m h3 hff hf ha
      have hp : p = n := by omega
      have hsk : skpT tx p n = n := by rw [hp]; exact runE_e (fun c => by omega)
      have hst : stT tx n i = n := by omega
      refine vc_X5_cut_8 ⟨rr (by omega), rr (by omega), fun _ => ⟨⟨rfl, by omega⟩, fun m1 q1 => ?_⟩, fun c => absurd (show n ≤ p by omega) c⟩
      obtain ⟨b1, b2, b3, b4, b5, b6, b7⟩ := hB m i h3 _ _ _ m1 q1
      refine hR m1 ⟨⟨i, by omega, b1, fun j j0 j1 => (ha j j0 j1).1, hst, fun j j0 j1 => ?_⟩, fun f hf3 => by rw [b6 f hf3]; exact hff f hf3, fun y hy => by rw [b7 y hy]; exact hf y hy⟩
      by_cases e : j = i
      · subst e
        refine ⟨?_, by rw [b3]; exact hst.symm, fun c => absurd c (by omega)⟩
        rw [b2]; unfold KT; rw [if_neg (by omega)]
      · have h1 := ha j j0 (by omega)
        have h2 := b5 j e
        exact ⟨by rw [h2.1]; exact h1.2.1, by rw [h2.2.1]; exact h1.2.2.1, fun _ => by rw [h2.2.2]; exact h1.2.2.2⟩
    | succ d ih =>
      intro p i hd p0 p1 i0 i1 hs m h3 hff hf ha
      by_cases hp : p = n
      · have hsk : skpT tx p n = n := by rw [hp]; exact runE_e (fun c => by omega)
        have hst : stT tx n i = n := by omega
        refine vc_X5_cut_8 ⟨rr (by omega), rr (by omega), fun _ => ⟨⟨rfl, by omega⟩, fun m1 q1 => ?_⟩, fun c => absurd (show n ≤ p by omega) c⟩
        obtain ⟨b1, b2, b3, b4, b5, b6, b7⟩ := hB m i h3 _ _ _ m1 q1
        refine hR m1 ⟨⟨i, by omega, b1, fun j j0 j1 => (ha j j0 j1).1, hst, fun j j0 j1 => ?_⟩, fun f hf3 => by rw [b6 f hf3]; exact hff f hf3, fun y hy => by rw [b7 y hy]; exact hf y hy⟩
        by_cases e : j = i
        · subst e
          refine ⟨?_, by rw [b3]; exact hst.symm, fun c => absurd c (by omega)⟩
          rw [b2]; unfold KT; rw [if_neg (by omega)]
        · have h1 := ha j j0 (by omega)
          have h2 := b5 j e
          exact ⟨by rw [h2.1]; exact h1.2.1, by rw [h2.2.1]; exact h1.2.2.1, fun _ => by rw [h2.2.2]; exact h1.2.2.2⟩
      · have e2 : m 2 = tx := by rw [hf 2 (by omega)]; exact htx
        have ht2 : TapeR m := by
          unfold TapeR
          rw [hf 2 (by omega)]
          exact ht
        have hb := ht p p0 (by omega)
        rw [htx] at hb
        -- a blank
        have blank : isBl (tx p) = true → V_X5_cut R 65 [(0, kR 145), (1, kR 2), (2, kI n), (3, kI (p + 1))] m := fun hbl => vc_X5_cut_65 (ih (p + 1) i (by omega) (by omega) (by omega) i0 (by omega) (by
          rw [← hs]
          exact (runE_s (q := fun i => isBl (tx i)) (show p < n by omega) hbl).symm) m h3 hff hf ha)
        refine vc_X5_cut_8 ?_
        rw [e2]
        refine ⟨rr (by omega), rr (by omega), fun c => absurd c (by omega), fun _ => ⟨by omega, rr (by omega), fun c => blank (decide_eq_true (Or.inl c)), fun c => ⟨by omega, rr (by omega), fun c2 => blank (decide_eq_true (Or.inr c2)), fun c2 => ?_⟩⟩⟩
        have nb : ¬ isBl (tx p) = true := fun q => (of_decide_eq_true q).elim c c2
        have hsp : skpT tx p n = p := runE_e (fun q => nb q.2)
        have hst : stT tx n i = p := by omega
        have he := endT_bd (tx := tx) (show p < n by omega)
        unfold F_X5_endOfToken F_X5_kindOf F_X5_valueOf
        rw [e2]
        refine ⟨⟨rfl, by omega, by omega, ht2⟩, ⟨rfl, by omega, by omega, ht2⟩, ⟨rfl, by omega, by omega⟩, ⟨rfl, by omega⟩, fun m4 q4 => vc_X5_cut_65 ?_⟩
        obtain ⟨b1, b2, b3, b4, b5, b6, b7⟩ := hB m i h3 _ _ _ m4 q4
        have hpos : posT tx n (i + 1) = endT tx p n := by
          rw [posT_s i0]
          unfold nxtT
          have e5 : skpT tx (posT tx n i) n = p := hst
          rw [e5, if_pos (by omega)]
        refine ih (endT tx p n) (i + 1) (by omega) (by omega) (by omega) (by omega) (by omega) (by unfold stT; rw [hpos]) m4 b1 (fun f hf3 => by rw [b6 f hf3]; exact hff f hf3) (fun y hy => by rw [b7 y hy]; exact hf y hy) (fun j j0 j1 => ?_)
        by_cases e : j = i
        · subst e
          refine ⟨by omega, ?_, by rw [b3]; exact hst.symm, ?_⟩
          · rw [b2]; unfold KT; rw [hst, if_pos (by omega)]
          · rw [b4]; unfold VT; rw [hst]
        · have h1 := ha j j0 (by omega)
          have h2 := b5 j e
          exact ⟨h1.1, by rw [h2.1]; exact h1.2.1, by rw [h2.2.1]; exact h1.2.2.1, by rw [h2.2.2]; exact h1.2.2.2⟩
  refine vc_X5_cut_0 (vc_X5_cut_5 (key n.toNat 0 0 (by omega) (by omega) hn.1 (by omega) (by omega) rfl _ (by rw [ru_eq, r1_eq]) (fun f hf => by rw [ru_eq, r1_ne hf]) (fun y hy => ru_ne (by omega)) (fun j j0 j1 => absurd j0 (by omega))))
theorem ct_X5_cut : Ct mX5_cut 2 46 0 0 (nrmS S_X5_cut) := by
  refine ct_vm (own := RX5) (by decide +kernel) rfl ?_ ?_
  · intro as μ Q hS
    unfold S_X5_cut at hS
    split at hS
    · exact Nat.le_of_ble_eq_true rfl
    · exact hS.elim
  · intro as μ R hS
    unfold S_X5_cut at hS
    split at hS
    · exact body_X5_cut hS.1 hS.2
    · exact hS.elim
def P_X5_refuse (o k p : Int) (_ : Mem) : Prop := o = 145 ∧ r32 k ∧ r32 p
def Q_X5_refuse (_ k p : Int) (μ μ' : Mem) (r : Int) : Prop := r = 0 ∧ μ' = updm (updm μ 145 4 k) 145 5 p
def S_X5_refuse : S0t := fun as μ Q => match as with
  | [(2, x0), (0, x1), (0, x2)] => P_X5_refuse x0 x1 x2 μ ∧ ∀ (μ' : Mem) (r : Int), Q_X5_refuse x0 x1 x2 μ μ' r → Q μ' (some (kI r))
  | _ => False
theorem mono_X5_refuse : Mono S_X5_refuse := by
  intro as μ Q Q' h hS
  unfold S_X5_refuse at hS ⊢
  split at hS
  · exact ⟨hS.1, fun μ' r q => h _ _ (hS.2 _ _ q)⟩
  · exact hS.elim
def iX5_refuse : Inf := (kX5_refuse, fTX5, pTX5, cTX5, lTX5, sTX5, [])
theorem ok_X5_refuse : infOK iX5_refuse mX5_refuse RX5 0 0 := ⟨kkX5_refuse, fTX5_ok, pTX5_ok _, cTX5_ok, lTX5_ok, sTX5_ok, c_nil⟩
theorem mt_X5_refuse : mtOK [] RX5 0 0 := mt_nil
abbrev V_X5_refuse (R : Mem → Option AV → Prop) (pc : Nat) (lc : List (Nat × AV)) (μ : Mem) : Prop := VM mX5_refuse RX5 0 0 R pc lc [] μ
set_option maxRecDepth 20000 in
theorem vc_X5_refuse_0 {R : Mem → Option AV → Prop} {k p : Int} {μ : Mem} (H : V_X5_refuse R 5 [(0, kR 145), (2, kI p)] (updm μ 145 4 k)) : V_X5_refuse R 0 [(0, kR 145), (1, kI k), (2, kI p)] μ := by
  refine vm_step2 mt_X5_refuse ok_X5_refuse [(5, [0, 2]), (10, [])] 1000 ?_
  show isC 145 5 ∧ 0 = 0 ∧ True ∧ V_X5_refuse R 5 [(0, kR 145), (2, kI p)] (updm μ 145 4 k)
  exact ⟨c_145, rfl, trivial, H⟩
set_option maxRecDepth 20000 in
theorem vc_X5_refuse_5 {R : Mem → Option AV → Prop} {p : Int} {μ : Mem} (H : V_X5_refuse R 10 [] (updm μ 145 5 p)) : V_X5_refuse R 5 [(0, kR 145), (2, kI p)] μ := by
  refine vm_step2 mt_X5_refuse ok_X5_refuse [(5, [0, 2]), (10, [])] 1000 ?_
  show isC 145 5 ∧ 0 = 0 ∧ True ∧ V_X5_refuse R 10 [] (updm μ 145 5 p)
  exact ⟨c_145, rfl, trivial, H⟩
set_option maxRecDepth 20000 in
theorem vc_X5_refuse_10 {R : Mem → Option AV → Prop} {μ : Mem} (H : R μ (some (kI 0))) : V_X5_refuse R 10 [] μ := by
  refine vm_step2 mt_X5_refuse ok_X5_refuse [(5, [0, 2]), (10, [])] 1000 ?_
  show (0 ≤ (0 : Int) ∧ (0 : Int) ≤ 1) ∧ R μ (some (kI 0))
  exact ⟨⟨by omega, by omega⟩, H⟩
theorem body_X5_refuse {o k p : Int} {μ : Mem} {R : Mem → Option AV → Prop} (h : P_X5_refuse o k p μ) (hR : ∀ (μ' : Mem) (r : Int), Q_X5_refuse o k p μ μ' r → R μ' (some (kI r))) : V_X5_refuse R 0 [(0, kR o), (1, kI k), (2, kI p)] μ := by
  obtain ⟨rfl, _, _⟩ := h
  exact vc_X5_refuse_0 (vc_X5_refuse_5 (vc_X5_refuse_10 (hR _ 0 ⟨rfl, rfl⟩)))
theorem ct_X5_refuse : Ct mX5_refuse 0 0 0 0 (nrmS S_X5_refuse) := by
  refine ct_vm (own := RX5) (by decide +kernel) rfl ?_ ?_
  · intro as μ Q hS
    unfold S_X5_refuse at hS
    split at hS
    · exact Nat.le_of_ble_eq_true rfl
    · exact hS.elim
  · intro as μ R hS
    unfold S_X5_refuse at hS
    split at hS
    · exact body_X5_refuse hS.1 hS.2
    · exact hS.elim
def Km (μ : Mem) (i : Int) : Int := if 0 ≤ i ∧ i < μ 145 3 then μ 146 i else 0
def P_X5_kindAt (o i : Int) (μ : Mem) : Prop := o = 145 ∧ r32 i ∧ (0 ≤ μ 145 3 ∧ μ 145 3 ≤ 501)
def F_X5_kindAt (_ i : Int) (μ : Mem) : Int := Km μ i
def S_X5_kindAt : S0t := fun as μ Q => match as with
  | [(2, x0), (0, x1)] => P_X5_kindAt x0 x1 μ ∧ Q μ (some (kI (F_X5_kindAt x0 x1 μ)))
  | _ => False
theorem mono_X5_kindAt : Mono S_X5_kindAt := by
  intro as μ Q Q' h hS
  unfold S_X5_kindAt at hS ⊢
  split at hS
  · exact ⟨hS.1, h _ _ hS.2⟩
  · exact hS.elim
def iX5_kindAt : Inf := (kX5_kindAt, fTX5, pTX5, cTX5, lTX5, sTX5, [])
theorem ok_X5_kindAt : infOK iX5_kindAt mX5_kindAt RX5 0 0 := ⟨kkX5_kindAt, fTX5_ok, pTX5_ok _, cTX5_ok, lTX5_ok, sTX5_ok, c_nil⟩
theorem mt_X5_kindAt : mtOK [] RX5 0 0 := mt_nil
abbrev V_X5_kindAt (R : Mem → Option AV → Prop) (pc : Nat) (lc : List (Nat × AV)) (μ : Mem) : Prop := VM mX5_kindAt RX5 0 0 R pc lc [] μ
set_option maxRecDepth 20000 in
theorem vc_X5_kindAt_0 {R : Mem → Option AV → Prop} {i : Int} {μ : Mem} (H : r32 i ∧ ((i < 0) → R μ (some (kI 0))) ∧ (¬ (i < 0) → r32 i ∧ r32 (μ 145 3) ∧ (((μ 145 3) ≤ i) → R μ (some (kI 0))) ∧ (¬ ((μ 145 3) ≤ i) → (0 ≤ i ∧ i < 501) ∧ R μ (some (kI (μ 146 i)))))) : V_X5_kindAt R 0 [(0, kR 145), (1, kI i)] μ := by
  refine vm_step2 mt_X5_kindAt ok_X5_kindAt [] 1000 ?_
  show r32 i ∧ ((i < 0) → R μ (some (kI 0))) ∧ (¬ (i < 0) → isC 145 5 ∧ (r32 i ∧ r32 (μ 145 3)) ∧ (((μ 145 3) ≤ i) → R μ (some (kI 0))) ∧ (¬ ((μ 145 3) ≤ i) → isC 145 5 ∧ inA 146 0 i ∧ R μ (some (kI (μ 146 i)))))
  exact ⟨H.1, fun hc2 => (H.2.1 hc2), fun hc2 => ⟨c_145, ⟨⟨(H.2.2 hc2).1, (H.2.2 hc2).2.1⟩, fun hc1 => ((H.2.2 hc2).2.2.1 hc1), fun hc1 => ⟨c_145, ⟨isArr.in a_146 ((H.2.2 hc2).2.2.2 hc1).1.1 ((H.2.2 hc2).2.2.2 hc1).1.2, ((H.2.2 hc2).2.2.2 hc1).2⟩⟩⟩⟩⟩
theorem body_X5_kindAt {o i : Int} {μ : Mem} {R : Mem → Option AV → Prop} (h : P_X5_kindAt o i μ) (hR : R μ (some (kI (F_X5_kindAt o i μ)))) : V_X5_kindAt R 0 [(0, kR o), (1, kI i)] μ := by
  obtain ⟨rfl, hi, ht⟩ := h
  unfold F_X5_kindAt Km at hR
  refine vc_X5_kindAt_0 ⟨hi, fun c => ?_, fun c => ⟨hi, rr (by omega), fun c2 => ?_, fun c2 => ⟨by omega, ?_⟩⟩⟩
  · rw [if_neg (by omega)] at hR; exact hR
  · rw [if_neg (by omega)] at hR; exact hR
  · rw [if_pos (by omega)] at hR; exact hR
theorem ct_X5_kindAt : Ct mX5_kindAt 0 0 0 0 (nrmS S_X5_kindAt) := by
  refine ct_vm (own := RX5) (by decide +kernel) rfl ?_ ?_
  · intro as μ Q hS
    unfold S_X5_kindAt at hS
    split at hS
    · exact Nat.le_of_ble_eq_true rfl
    · exact hS.elim
  · intro as μ R hS
    unfold S_X5_kindAt at hS
    split at hS
    · exact body_X5_kindAt hS.1 hS.2
    · exact hS.elim
def Sm (μ : Mem) (i : Int) : Int := if 0 ≤ i ∧ i < μ 145 3 then μ 147 i else 0
def P_X5_startAt (o i : Int) (μ : Mem) : Prop := o = 145 ∧ r32 i ∧ (0 ≤ μ 145 3 ∧ μ 145 3 ≤ 501)
def F_X5_startAt (_ i : Int) (μ : Mem) : Int := Sm μ i
def S_X5_startAt : S0t := fun as μ Q => match as with
  | [(2, x0), (0, x1)] => P_X5_startAt x0 x1 μ ∧ Q μ (some (kI (F_X5_startAt x0 x1 μ)))
  | _ => False
theorem mono_X5_startAt : Mono S_X5_startAt := by
  intro as μ Q Q' h hS
  unfold S_X5_startAt at hS ⊢
  split at hS
  · exact ⟨hS.1, h _ _ hS.2⟩
  · exact hS.elim
def iX5_startAt : Inf := (kX5_startAt, fTX5, pTX5, cTX5, lTX5, sTX5, [])
theorem ok_X5_startAt : infOK iX5_startAt mX5_startAt RX5 0 0 := ⟨kkX5_startAt, fTX5_ok, pTX5_ok _, cTX5_ok, lTX5_ok, sTX5_ok, c_nil⟩
theorem mt_X5_startAt : mtOK [] RX5 0 0 := mt_nil
abbrev V_X5_startAt (R : Mem → Option AV → Prop) (pc : Nat) (lc : List (Nat × AV)) (μ : Mem) : Prop := VM mX5_startAt RX5 0 0 R pc lc [] μ
set_option maxRecDepth 20000 in
theorem vc_X5_startAt_0 {R : Mem → Option AV → Prop} {i : Int} {μ : Mem} (H : r32 i ∧ ((i < 0) → R μ (some (kI 0))) ∧ (¬ (i < 0) → r32 i ∧ r32 (μ 145 3) ∧ (((μ 145 3) ≤ i) → R μ (some (kI 0))) ∧ (¬ ((μ 145 3) ≤ i) → (0 ≤ i ∧ i < 501) ∧ R μ (some (kI (μ 147 i)))))) : V_X5_startAt R 0 [(0, kR 145), (1, kI i)] μ := by
  refine vm_step2 mt_X5_startAt ok_X5_startAt [] 1000 ?_
  show r32 i ∧ ((i < 0) → R μ (some (kI 0))) ∧ (¬ (i < 0) → isC 145 5 ∧ (r32 i ∧ r32 (μ 145 3)) ∧ (((μ 145 3) ≤ i) → R μ (some (kI 0))) ∧ (¬ ((μ 145 3) ≤ i) → isC 145 5 ∧ inA 147 0 i ∧ R μ (some (kI (μ 147 i)))))
  exact ⟨H.1, fun hc2 => (H.2.1 hc2), fun hc2 => ⟨c_145, ⟨⟨(H.2.2 hc2).1, (H.2.2 hc2).2.1⟩, fun hc1 => ((H.2.2 hc2).2.2.1 hc1), fun hc1 => ⟨c_145, ⟨isArr.in a_147 ((H.2.2 hc2).2.2.2 hc1).1.1 ((H.2.2 hc2).2.2.2 hc1).1.2, ((H.2.2 hc2).2.2.2 hc1).2⟩⟩⟩⟩⟩
theorem body_X5_startAt {o i : Int} {μ : Mem} {R : Mem → Option AV → Prop} (h : P_X5_startAt o i μ) (hR : R μ (some (kI (F_X5_startAt o i μ)))) : V_X5_startAt R 0 [(0, kR o), (1, kI i)] μ := by
  obtain ⟨rfl, hi, ht⟩ := h
  unfold F_X5_startAt Sm at hR
  refine vc_X5_startAt_0 ⟨hi, fun c => ?_, fun c => ⟨hi, rr (by omega), fun c2 => ?_, fun c2 => ⟨by omega, ?_⟩⟩⟩
  · rw [if_neg (by omega)] at hR; exact hR
  · rw [if_neg (by omega)] at hR; exact hR
  · rw [if_pos (by omega)] at hR; exact hR
theorem ct_X5_startAt : Ct mX5_startAt 0 0 0 0 (nrmS S_X5_startAt) := by
  refine ct_vm (own := RX5) (by decide +kernel) rfl ?_ ?_
  · intro as μ Q hS
    unfold S_X5_startAt at hS
    split at hS
    · exact Nat.le_of_ble_eq_true rfl
    · exact hS.elim
  · intro as μ R hS
    unfold S_X5_startAt at hS
    split at hS
    · exact body_X5_startAt hS.1 hS.2
    · exact hS.elim
def Vm (μ : Mem) (i : Int) : Int := if 0 ≤ i ∧ i < μ 145 3 then μ 148 i else 0
def P_X5_valueAt (o i : Int) (μ : Mem) : Prop := o = 145 ∧ r32 i ∧ (0 ≤ μ 145 3 ∧ μ 145 3 ≤ 501)
def F_X5_valueAt (_ i : Int) (μ : Mem) : Int := Vm μ i
def S_X5_valueAt : S0t := fun as μ Q => match as with
  | [(2, x0), (0, x1)] => P_X5_valueAt x0 x1 μ ∧ Q μ (some (kI (F_X5_valueAt x0 x1 μ)))
  | _ => False
theorem mono_X5_valueAt : Mono S_X5_valueAt := by
  intro as μ Q Q' h hS
  unfold S_X5_valueAt at hS ⊢
  split at hS
  · exact ⟨hS.1, h _ _ hS.2⟩
  · exact hS.elim
def iX5_valueAt : Inf := (kX5_valueAt, fTX5, pTX5, cTX5, lTX5, sTX5, [])
theorem ok_X5_valueAt : infOK iX5_valueAt mX5_valueAt RX5 0 0 := ⟨kkX5_valueAt, fTX5_ok, pTX5_ok _, cTX5_ok, lTX5_ok, sTX5_ok, c_nil⟩
theorem mt_X5_valueAt : mtOK [] RX5 0 0 := mt_nil
abbrev V_X5_valueAt (R : Mem → Option AV → Prop) (pc : Nat) (lc : List (Nat × AV)) (μ : Mem) : Prop := VM mX5_valueAt RX5 0 0 R pc lc [] μ
set_option maxRecDepth 20000 in
theorem vc_X5_valueAt_0 {R : Mem → Option AV → Prop} {i : Int} {μ : Mem} (H : r32 i ∧ ((i < 0) → R μ (some (kI 0))) ∧ (¬ (i < 0) → r32 i ∧ r32 (μ 145 3) ∧ (((μ 145 3) ≤ i) → R μ (some (kI 0))) ∧ (¬ ((μ 145 3) ≤ i) → (0 ≤ i ∧ i < 501) ∧ R μ (some (kI (μ 148 i)))))) : V_X5_valueAt R 0 [(0, kR 145), (1, kI i)] μ := by
  refine vm_step2 mt_X5_valueAt ok_X5_valueAt [] 1000 ?_
  show r32 i ∧ ((i < 0) → R μ (some (kI 0))) ∧ (¬ (i < 0) → isC 145 5 ∧ (r32 i ∧ r32 (μ 145 3)) ∧ (((μ 145 3) ≤ i) → R μ (some (kI 0))) ∧ (¬ ((μ 145 3) ≤ i) → isC 145 5 ∧ inA 148 0 i ∧ R μ (some (kI (μ 148 i)))))
  exact ⟨H.1, fun hc2 => (H.2.1 hc2), fun hc2 => ⟨c_145, ⟨⟨(H.2.2 hc2).1, (H.2.2 hc2).2.1⟩, fun hc1 => ((H.2.2 hc2).2.2.1 hc1), fun hc1 => ⟨c_145, ⟨isArr.in a_148 ((H.2.2 hc2).2.2.2 hc1).1.1 ((H.2.2 hc2).2.2.2 hc1).1.2, ((H.2.2 hc2).2.2.2 hc1).2⟩⟩⟩⟩⟩
theorem body_X5_valueAt {o i : Int} {μ : Mem} {R : Mem → Option AV → Prop} (h : P_X5_valueAt o i μ) (hR : R μ (some (kI (F_X5_valueAt o i μ)))) : V_X5_valueAt R 0 [(0, kR o), (1, kI i)] μ := by
  obtain ⟨rfl, hi, ht⟩ := h
  unfold F_X5_valueAt Vm at hR
  refine vc_X5_valueAt_0 ⟨hi, fun c => ?_, fun c => ⟨hi, rr (by omega), fun c2 => ?_, fun c2 => ⟨by omega, ?_⟩⟩⟩
  · rw [if_neg (by omega)] at hR; exact hR
  · rw [if_neg (by omega)] at hR; exact hR
  · rw [if_pos (by omega)] at hR; exact hR
theorem ct_X5_valueAt : Ct mX5_valueAt 0 0 0 0 (nrmS S_X5_valueAt) := by
  refine ct_vm (own := RX5) (by decide +kernel) rfl ?_ ?_
  · intro as μ Q hS
    unfold S_X5_valueAt at hS
    split at hS
    · exact Nat.le_of_ble_eq_true rfl
    · exact hS.elim
  · intro as μ R hS
    unfold S_X5_valueAt at hS
    split at hS
    · exact body_X5_valueAt hS.1 hS.2
    · exact hS.elim
def P_X5_numbersBehind (k : Int) (_ : Mem) : Prop := r32 k
def F_X5_numbersBehind (k : Int) (_ : Mem) : Int := nbK k
def S_X5_numbersBehind : S0t := fun as μ Q => match as with
  | [(0, x0)] => P_X5_numbersBehind x0 μ ∧ Q μ (some (kI (F_X5_numbersBehind x0 μ)))
  | _ => False
theorem mono_X5_numbersBehind : Mono S_X5_numbersBehind := by
  intro as μ Q Q' h hS
  unfold S_X5_numbersBehind at hS ⊢
  split at hS
  · exact ⟨hS.1, h _ _ hS.2⟩
  · exact hS.elim
def iX5_numbersBehind : Inf := (kX5_numbersBehind, fTX5, pTX5, cTX5, lTX5, sTX5, [])
theorem ok_X5_numbersBehind : infOK iX5_numbersBehind mX5_numbersBehind RX5 0 0 := ⟨kkX5_numbersBehind, fTX5_ok, pTX5_ok _, cTX5_ok, lTX5_ok, sTX5_ok, c_nil⟩
theorem mt_X5_numbersBehind : mtOK [] RX5 0 0 := mt_nil
abbrev V_X5_numbersBehind (R : Mem → Option AV → Prop) (pc : Nat) (lc : List (Nat × AV)) (μ : Mem) : Prop := VM mX5_numbersBehind RX5 0 0 R pc lc [] μ
set_option maxRecDepth 20000 in
theorem vc_X5_numbersBehind_0 {R : Mem → Option AV → Prop} {k : Int} {μ : Mem} (H : r32 k ∧ (k < 3 ∨ 9 < k → R μ (some (kI 0))) ∧ (k = 3 → R μ (some (kI 1))) ∧ (k = 4 → R μ (some (kI 3))) ∧ (k = 5 → R μ (some (kI 2))) ∧ (k = 6 → R μ (some (kI 2))) ∧ (k = 7 → R μ (some (kI 2))) ∧ (k = 8 → R μ (some (kI 1))) ∧ (k = 9 → R μ (some (kI 1)))) : V_X5_numbersBehind R 0 [(0, kI k)] μ := by
  refine vm_step2 mt_X5_numbersBehind ok_X5_numbersBehind [] 1000 ?_
  show r32 k ∧ (k < 3 ∨ 9 < k → R μ (some (kI 0))) ∧ (k = 3 → R μ (some (kI 1))) ∧ (k = 4 → R μ (some (kI 3))) ∧ (k = 5 → R μ (some (kI 2))) ∧ (k = 6 → R μ (some (kI 2))) ∧ (k = 7 → R μ (some (kI 2))) ∧ (k = 8 → R μ (some (kI 1))) ∧ (k = 9 → R μ (some (kI 1))) ∧ True
  exact ⟨H.1, fun hc1 => (H.2.1 hc1), fun hc1 => (H.2.2.1 hc1), fun hc1 => (H.2.2.2.1 hc1), fun hc1 => (H.2.2.2.2.1 hc1), fun hc1 => (H.2.2.2.2.2.1 hc1), fun hc1 => (H.2.2.2.2.2.2.1 hc1), fun hc1 => (H.2.2.2.2.2.2.2.1 hc1), fun hc1 => (H.2.2.2.2.2.2.2.2 hc1), trivial⟩
theorem body_X5_numbersBehind {k : Int} {μ : Mem} {R : Mem → Option AV → Prop} (h : P_X5_numbersBehind k μ) (hR : R μ (some (kI (F_X5_numbersBehind k μ)))) : V_X5_numbersBehind R 0 [(0, kI k)] μ := by
  unfold F_X5_numbersBehind at hR
  refine vc_X5_numbersBehind_0 ⟨h, fun c => ?_, fun c => ?_, fun c => ?_, fun c => ?_, fun c => ?_, fun c => ?_, fun c => ?_, fun c => ?_⟩
  · unfold nbK at hR
    rw [if_neg (by omega), if_neg (by omega), if_neg (by omega), if_neg (by omega), if_neg (by omega), if_neg (by omega), if_neg (by omega)] at hR
    exact hR
  all_goals (subst c; exact hR)
theorem ct_X5_numbersBehind : Ct mX5_numbersBehind 0 0 0 0 (nrmS S_X5_numbersBehind) := by
  refine ct_vm (own := RX5) (by decide +kernel) rfl ?_ ?_
  · intro as μ Q hS
    unfold S_X5_numbersBehind at hS
    split at hS
    · exact Nat.le_of_ble_eq_true rfl
    · exact hS.elim
  · intro as μ R hS
    unfold S_X5_numbersBehind at hS
    split at hS
    · exact body_X5_numbersBehind hS.1 hS.2
    · exact hS.elim
def TkB (μ : Mem) : Prop := (1 ≤ μ 145 3 ∧ μ 145 3 ≤ 501) ∧ ∀ i : Int, 0 ≤ i → i < μ 145 3 → (0 ≤ μ 146 i ∧ μ 146 i ≤ 10) ∧ (0 ≤ μ 147 i ∧ μ 147 i ≤ 500)
theorem Km_bd {μ : Mem} (h : TkB μ) (i : Int) : (0 ≤ Km μ i ∧ Km μ i ≤ 10) ∧ (0 ≤ Sm μ i ∧ Sm μ i ≤ 500) := by
  unfold Km Sm
  by_cases c : 0 ≤ i ∧ i < μ 145 3
  · rw [if_pos c, if_pos c]; exact h.2 i c.1 c.2
  · rw [if_neg c, if_neg c]; omega
def P_X5_isText (o : Int) (μ : Mem) : Prop := o = 145 ∧ TkB μ
def Q_X5_isText (_ : Int) (μ μ' : Mem) (r : Int) : Prop := (gramN (Km μ) 502 0 < 0 → r = 1 ∧ μ' = μ) ∧ (0 ≤ gramN (Km μ) 502 0 → r = 0 ∧ μ' = updm (updm μ 145 4 1) 145 5 (Sm μ (gramN (Km μ) 502 0)))
def S_X5_isText : S0t := fun as μ Q => match as with
  | [(2, x0)] => P_X5_isText x0 μ ∧ ∀ (μ' : Mem) (r : Int), Q_X5_isText x0 μ μ' r → Q μ' (some (kI r))
  | _ => False
theorem mono_X5_isText : Mono S_X5_isText := by
  intro as μ Q Q' h hS
  unfold S_X5_isText at hS ⊢
  split at hS
  · exact ⟨hS.1, fun μ' r q => h _ _ (hS.2 _ _ q)⟩
  · exact hS.elim
def iX5_isText : Inf := (kX5_isText, fTX5, pTX5, cTX5, lTX5, sTX5, [(100, 0, 1, 5, S_X5_kindAt), (107, 0, 1, 5, S_X5_startAt), (110, 0, 2, 5, S_X5_refuse), (104, 1, 1, 0, S_X5_numbersBehind)])
theorem ok_X5_isText : infOK iX5_isText mX5_isText RX5 1 22 := ⟨kkX5_isText, fTX5_ok, pTX5_ok _, cTX5_ok, lTX5_ok, sTX5_ok, c_cons ⟨mX5_kindAt, 0, 0, ct_X5_kindAt, mmX5_kindAt, vvX5_kindAt, lkX5_100, ⟨by decide, by decide⟩, ⟨_, _, rfl⟩, by decide, mono_X5_kindAt⟩ (c_cons ⟨mX5_startAt, 0, 0, ct_X5_startAt, mmX5_startAt, vvX5_startAt, lkX5_107, ⟨by decide, by decide⟩, ⟨_, _, rfl⟩, by decide, mono_X5_startAt⟩ (c_cons ⟨mX5_refuse, 0, 0, ct_X5_refuse, mmX5_refuse, vvX5_refuse, lkX5_110, ⟨by decide, by decide⟩, ⟨_, _, rfl⟩, by decide, mono_X5_refuse⟩ (c_cons ⟨mX5_numbersBehind, 0, 0, ct_X5_numbersBehind, mmX5_numbersBehind, stX5_numbersBehind, lkX5_104, ⟨by decide, by decide⟩, mono_X5_numbersBehind⟩ (c_nil))))⟩
theorem mt_X5_isText : mtOK [] RX5 1 22 := mt_nil
abbrev V_X5_isText (R : Mem → Option AV → Prop) (pc : Nat) (lc : List (Nat × AV)) (μ : Mem) : Prop := VM mX5_isText RX5 1 22 R pc lc [] μ
set_option maxRecDepth 20000 in
theorem vc_X5_isText_0 {R : Mem → Option AV → Prop} {μ : Mem} (H : V_X5_isText R 2 [(0, kR 145), (2, kI 0)] μ) : V_X5_isText R 0 [(0, kR 145)] μ := by
  refine vm_step2 mt_X5_isText ok_X5_isText [(2, [0, 2]), (80, [0, 1, 4])] 1000 ?_
  show V_X5_isText R 2 [(0, kR 145), (2, kI 0)] μ
  exact H
set_option maxRecDepth 20000 in
theorem vc_X5_isText_2 {R : Mem → Option AV → Prop} {p : Int} {μ : Mem} (H : r32 p ∧ r32 (μ 145 3) ∧ (((μ 145 3) ≤ p) → R μ (some (kI 1))) ∧ (¬ ((μ 145 3) ≤ p) → P_X5_kindAt 145 p μ ∧ r32 p ∧ ((p ≤ 0) → r32 p ∧ ((¬ p = 0) → r32 (F_X5_kindAt 145 p μ) ∧ ((¬ (F_X5_kindAt 145 p μ) = (3 : Int)) → P_X5_numbersBehind (F_X5_kindAt 145 p μ) μ ∧ r32 (F_X5_numbersBehind (F_X5_kindAt 145 p μ) μ) ∧ ((¬ (F_X5_numbersBehind (F_X5_kindAt 145 p μ) μ) = 0) → P_X5_numbersBehind (F_X5_kindAt 145 p μ) μ ∧ V_X5_isText R 80 [(0, kR 145), (1, kI ((p + 1) + (F_X5_numbersBehind (F_X5_kindAt 145 p μ) μ))), (4, kI (p + 1))] μ) ∧ (¬ (¬ (F_X5_numbersBehind (F_X5_kindAt 145 p μ) μ) = 0) → P_X5_startAt 145 p μ ∧ P_X5_refuse 145 1 (F_X5_startAt 145 p μ) μ ∧ (∀ (μ4 : Mem) (rv5 : Int), Q_X5_refuse 145 1 (F_X5_startAt 145 p μ) μ μ4 rv5 → (0 ≤ rv5 ∧ rv5 ≤ 1) ∧ R μ4 (some (kI rv5))))) ∧ (¬ (¬ (F_X5_kindAt 145 p μ) = (3 : Int)) → P_X5_startAt 145 p μ ∧ P_X5_refuse 145 1 (F_X5_startAt 145 p μ) μ ∧ (∀ (μ9 : Mem) (rv10 : Int), Q_X5_refuse 145 1 (F_X5_startAt 145 p μ) μ μ9 rv10 → (0 ≤ rv10 ∧ rv10 ≤ 1) ∧ R μ9 (some (kI rv10))))) ∧ (¬ (¬ p = 0) → r32 (F_X5_kindAt 145 p μ) ∧ ((¬ (F_X5_kindAt 145 p μ) = (3 : Int)) → P_X5_startAt 145 p μ ∧ P_X5_refuse 145 1 (F_X5_startAt 145 p μ) μ ∧ (∀ (μ18 : Mem) (rv19 : Int), Q_X5_refuse 145 1 (F_X5_startAt 145 p μ) μ μ18 rv19 → (0 ≤ rv19 ∧ rv19 ≤ 1) ∧ R μ18 (some (kI rv19)))) ∧ (¬ (¬ (F_X5_kindAt 145 p μ) = (3 : Int)) → P_X5_numbersBehind (F_X5_kindAt 145 p μ) μ ∧ r32 (F_X5_numbersBehind (F_X5_kindAt 145 p μ) μ) ∧ ((¬ (F_X5_numbersBehind (F_X5_kindAt 145 p μ) μ) = 0) → P_X5_numbersBehind (F_X5_kindAt 145 p μ) μ ∧ V_X5_isText R 80 [(0, kR 145), (1, kI ((p + 1) + (F_X5_numbersBehind (F_X5_kindAt 145 p μ) μ))), (4, kI (p + 1))] μ) ∧ (¬ (¬ (F_X5_numbersBehind (F_X5_kindAt 145 p μ) μ) = 0) → P_X5_startAt 145 p μ ∧ P_X5_refuse 145 1 (F_X5_startAt 145 p μ) μ ∧ (∀ (μ29 : Mem) (rv30 : Int), Q_X5_refuse 145 1 (F_X5_startAt 145 p μ) μ μ29 rv30 → (0 ≤ rv30 ∧ rv30 ≤ 1) ∧ R μ29 (some (kI rv30))))))) ∧ (¬ (p ≤ 0) → r32 (F_X5_kindAt 145 p μ) ∧ ((¬ (F_X5_kindAt 145 p μ) = 0) → r32 p ∧ ((¬ p = 0) → r32 (F_X5_kindAt 145 p μ) ∧ ((¬ (F_X5_kindAt 145 p μ) = (3 : Int)) → P_X5_numbersBehind (F_X5_kindAt 145 p μ) μ ∧ r32 (F_X5_numbersBehind (F_X5_kindAt 145 p μ) μ) ∧ ((¬ (F_X5_numbersBehind (F_X5_kindAt 145 p μ) μ) = 0) → P_X5_numbersBehind (F_X5_kindAt 145 p μ) μ ∧ V_X5_isText R 80 [(0, kR 145), (1, kI ((p + 1) + (F_X5_numbersBehind (F_X5_kindAt 145 p μ) μ))), (4, kI (p + 1))] μ) ∧ (¬ (¬ (F_X5_numbersBehind (F_X5_kindAt 145 p μ) μ) = 0) → P_X5_startAt 145 p μ ∧ P_X5_refuse 145 1 (F_X5_startAt 145 p μ) μ ∧ (∀ (μ39 : Mem) (rv40 : Int), Q_X5_refuse 145 1 (F_X5_startAt 145 p μ) μ μ39 rv40 → (0 ≤ rv40 ∧ rv40 ≤ 1) ∧ R μ39 (some (kI rv40))))) ∧ (¬ (¬ (F_X5_kindAt 145 p μ) = (3 : Int)) → P_X5_startAt 145 p μ ∧ P_X5_refuse 145 1 (F_X5_startAt 145 p μ) μ ∧ (∀ (μ44 : Mem) (rv45 : Int), Q_X5_refuse 145 1 (F_X5_startAt 145 p μ) μ μ44 rv45 → (0 ≤ rv45 ∧ rv45 ≤ 1) ∧ R μ44 (some (kI rv45))))) ∧ (¬ (¬ p = 0) → r32 (F_X5_kindAt 145 p μ) ∧ ((¬ (F_X5_kindAt 145 p μ) = (3 : Int)) → P_X5_startAt 145 p μ ∧ P_X5_refuse 145 1 (F_X5_startAt 145 p μ) μ ∧ (∀ (μ53 : Mem) (rv54 : Int), Q_X5_refuse 145 1 (F_X5_startAt 145 p μ) μ μ53 rv54 → (0 ≤ rv54 ∧ rv54 ≤ 1) ∧ R μ53 (some (kI rv54)))) ∧ (¬ (¬ (F_X5_kindAt 145 p μ) = (3 : Int)) → P_X5_numbersBehind (F_X5_kindAt 145 p μ) μ ∧ r32 (F_X5_numbersBehind (F_X5_kindAt 145 p μ) μ) ∧ ((¬ (F_X5_numbersBehind (F_X5_kindAt 145 p μ) μ) = 0) → P_X5_numbersBehind (F_X5_kindAt 145 p μ) μ ∧ V_X5_isText R 80 [(0, kR 145), (1, kI ((p + 1) + (F_X5_numbersBehind (F_X5_kindAt 145 p μ) μ))), (4, kI (p + 1))] μ) ∧ (¬ (¬ (F_X5_numbersBehind (F_X5_kindAt 145 p μ) μ) = 0) → P_X5_startAt 145 p μ ∧ P_X5_refuse 145 1 (F_X5_startAt 145 p μ) μ ∧ (∀ (μ64 : Mem) (rv65 : Int), Q_X5_refuse 145 1 (F_X5_startAt 145 p μ) μ μ64 rv65 → (0 ≤ rv65 ∧ rv65 ≤ 1) ∧ R μ64 (some (kI rv65))))))) ∧ (¬ (¬ (F_X5_kindAt 145 p μ) = 0) → R μ (some (kI 1)))))) : V_X5_isText R 2 [(0, kR 145), (2, kI p)] μ := by
  refine vm_step2 mt_X5_isText ok_X5_isText [(2, [0, 2]), (80, [0, 1, 4])] 1000 ?_
  show isC 145 5 ∧ (r32 p ∧ r32 (μ 145 3)) ∧ (((μ 145 3) ≤ p) → (0 ≤ (1 : Int) ∧ (1 : Int) ≤ 1) ∧ R μ (some (kI 1))) ∧ (¬ ((μ 145 3) ≤ p) → isC 145 5 ∧ P_X5_kindAt 145 p μ ∧ r32 p ∧ ((p ≤ 0) → r32 p ∧ ((¬ p = 0) → (r32 (F_X5_kindAt 145 p μ) ∧ r32 (3 : Int)) ∧ ((¬ (F_X5_kindAt 145 p μ) = (3 : Int)) → (r32 (0 : Int) ∧ r32 (0 : Int)) ∧ ((¬ (0 : Int) = (0 : Int)) → isC 145 5 ∧ P_X5_startAt 145 p μ ∧ isC 145 5 ∧ P_X5_refuse 145 1 (F_X5_startAt 145 p μ) μ ∧ (∀ (μ1 : Mem) (rv2 : Int), Q_X5_refuse 145 1 (F_X5_startAt 145 p μ) μ μ1 rv2 → (0 ≤ rv2 ∧ rv2 ≤ 1) ∧ R μ1 (some (kI rv2)))) ∧ (¬ (¬ (0 : Int) = (0 : Int)) → P_X5_numbersBehind (F_X5_kindAt 145 p μ) μ ∧ r32 (F_X5_numbersBehind (F_X5_kindAt 145 p μ) μ) ∧ ((¬ (F_X5_numbersBehind (F_X5_kindAt 145 p μ) μ) = 0) → P_X5_numbersBehind (F_X5_kindAt 145 p μ) μ ∧ V_X5_isText R 80 [(0, kR 145), (1, kI ((p + 1) + (F_X5_numbersBehind (F_X5_kindAt 145 p μ) μ))), (4, kI (p + 1))] μ) ∧ (¬ (¬ (F_X5_numbersBehind (F_X5_kindAt 145 p μ) μ) = 0) → isC 145 5 ∧ P_X5_startAt 145 p μ ∧ isC 145 5 ∧ P_X5_refuse 145 1 (F_X5_startAt 145 p μ) μ ∧ (∀ (μ4 : Mem) (rv5 : Int), Q_X5_refuse 145 1 (F_X5_startAt 145 p μ) μ μ4 rv5 → (0 ≤ rv5 ∧ rv5 ≤ 1) ∧ R μ4 (some (kI rv5)))))) ∧ (¬ (¬ (F_X5_kindAt 145 p μ) = (3 : Int)) → (r32 (0 : Int) ∧ r32 (1 : Int)) ∧ ((¬ (0 : Int) = (1 : Int)) → isC 145 5 ∧ P_X5_startAt 145 p μ ∧ isC 145 5 ∧ P_X5_refuse 145 1 (F_X5_startAt 145 p μ) μ ∧ (∀ (μ9 : Mem) (rv10 : Int), Q_X5_refuse 145 1 (F_X5_startAt 145 p μ) μ μ9 rv10 → (0 ≤ rv10 ∧ rv10 ≤ 1) ∧ R μ9 (some (kI rv10)))) ∧ (¬ (¬ (0 : Int) = (1 : Int)) → P_X5_numbersBehind (F_X5_kindAt 145 p μ) μ ∧ r32 (F_X5_numbersBehind (F_X5_kindAt 145 p μ) μ) ∧ ((¬ (F_X5_numbersBehind (F_X5_kindAt 145 p μ) μ) = 0) → P_X5_numbersBehind (F_X5_kindAt 145 p μ) μ ∧ V_X5_isText R 80 [(0, kR 145), (1, kI ((p + 1) + (F_X5_numbersBehind (F_X5_kindAt 145 p μ) μ))), (4, kI (p + 1))] μ) ∧ (¬ (¬ (F_X5_numbersBehind (F_X5_kindAt 145 p μ) μ) = 0) → isC 145 5 ∧ P_X5_startAt 145 p μ ∧ isC 145 5 ∧ P_X5_refuse 145 1 (F_X5_startAt 145 p μ) μ ∧ (∀ (μ12 : Mem) (rv13 : Int), Q_X5_refuse 145 1 (F_X5_startAt 145 p μ) μ μ12 rv13 → (0 ≤ rv13 ∧ rv13 ≤ 1) ∧ R μ12 (some (kI rv13))))))) ∧ (¬ (¬ p = 0) → (r32 (F_X5_kindAt 145 p μ) ∧ r32 (3 : Int)) ∧ ((¬ (F_X5_kindAt 145 p μ) = (3 : Int)) → (r32 (1 : Int) ∧ r32 (0 : Int)) ∧ ((¬ (1 : Int) = (0 : Int)) → isC 145 5 ∧ P_X5_startAt 145 p μ ∧ isC 145 5 ∧ P_X5_refuse 145 1 (F_X5_startAt 145 p μ) μ ∧ (∀ (μ18 : Mem) (rv19 : Int), Q_X5_refuse 145 1 (F_X5_startAt 145 p μ) μ μ18 rv19 → (0 ≤ rv19 ∧ rv19 ≤ 1) ∧ R μ18 (some (kI rv19)))) ∧ (¬ (¬ (1 : Int) = (0 : Int)) → P_X5_numbersBehind (F_X5_kindAt 145 p μ) μ ∧ r32 (F_X5_numbersBehind (F_X5_kindAt 145 p μ) μ) ∧ ((¬ (F_X5_numbersBehind (F_X5_kindAt 145 p μ) μ) = 0) → P_X5_numbersBehind (F_X5_kindAt 145 p μ) μ ∧ V_X5_isText R 80 [(0, kR 145), (1, kI ((p + 1) + (F_X5_numbersBehind (F_X5_kindAt 145 p μ) μ))), (4, kI (p + 1))] μ) ∧ (¬ (¬ (F_X5_numbersBehind (F_X5_kindAt 145 p μ) μ) = 0) → isC 145 5 ∧ P_X5_startAt 145 p μ ∧ isC 145 5 ∧ P_X5_refuse 145 1 (F_X5_startAt 145 p μ) μ ∧ (∀ (μ21 : Mem) (rv22 : Int), Q_X5_refuse 145 1 (F_X5_startAt 145 p μ) μ μ21 rv22 → (0 ≤ rv22 ∧ rv22 ≤ 1) ∧ R μ21 (some (kI rv22)))))) ∧ (¬ (¬ (F_X5_kindAt 145 p μ) = (3 : Int)) → (r32 (1 : Int) ∧ r32 (1 : Int)) ∧ ((¬ (1 : Int) = (1 : Int)) → isC 145 5 ∧ P_X5_startAt 145 p μ ∧ isC 145 5 ∧ P_X5_refuse 145 1 (F_X5_startAt 145 p μ) μ ∧ (∀ (μ26 : Mem) (rv27 : Int), Q_X5_refuse 145 1 (F_X5_startAt 145 p μ) μ μ26 rv27 → (0 ≤ rv27 ∧ rv27 ≤ 1) ∧ R μ26 (some (kI rv27)))) ∧ (¬ (¬ (1 : Int) = (1 : Int)) → P_X5_numbersBehind (F_X5_kindAt 145 p μ) μ ∧ r32 (F_X5_numbersBehind (F_X5_kindAt 145 p μ) μ) ∧ ((¬ (F_X5_numbersBehind (F_X5_kindAt 145 p μ) μ) = 0) → P_X5_numbersBehind (F_X5_kindAt 145 p μ) μ ∧ V_X5_isText R 80 [(0, kR 145), (1, kI ((p + 1) + (F_X5_numbersBehind (F_X5_kindAt 145 p μ) μ))), (4, kI (p + 1))] μ) ∧ (¬ (¬ (F_X5_numbersBehind (F_X5_kindAt 145 p μ) μ) = 0) → isC 145 5 ∧ P_X5_startAt 145 p μ ∧ isC 145 5 ∧ P_X5_refuse 145 1 (F_X5_startAt 145 p μ) μ ∧ (∀ (μ29 : Mem) (rv30 : Int), Q_X5_refuse 145 1 (F_X5_startAt 145 p μ) μ μ29 rv30 → (0 ≤ rv30 ∧ rv30 ≤ 1) ∧ R μ29 (some (kI rv30)))))))) ∧ (¬ (p ≤ 0) → r32 (F_X5_kindAt 145 p μ) ∧ ((¬ (F_X5_kindAt 145 p μ) = 0) → r32 p ∧ ((¬ p = 0) → (r32 (F_X5_kindAt 145 p μ) ∧ r32 (3 : Int)) ∧ ((¬ (F_X5_kindAt 145 p μ) = (3 : Int)) → (r32 (0 : Int) ∧ r32 (0 : Int)) ∧ ((¬ (0 : Int) = (0 : Int)) → isC 145 5 ∧ P_X5_startAt 145 p μ ∧ isC 145 5 ∧ P_X5_refuse 145 1 (F_X5_startAt 145 p μ) μ ∧ (∀ (μ36 : Mem) (rv37 : Int), Q_X5_refuse 145 1 (F_X5_startAt 145 p μ) μ μ36 rv37 → (0 ≤ rv37 ∧ rv37 ≤ 1) ∧ R μ36 (some (kI rv37)))) ∧ (¬ (¬ (0 : Int) = (0 : Int)) → P_X5_numbersBehind (F_X5_kindAt 145 p μ) μ ∧ r32 (F_X5_numbersBehind (F_X5_kindAt 145 p μ) μ) ∧ ((¬ (F_X5_numbersBehind (F_X5_kindAt 145 p μ) μ) = 0) → P_X5_numbersBehind (F_X5_kindAt 145 p μ) μ ∧ V_X5_isText R 80 [(0, kR 145), (1, kI ((p + 1) + (F_X5_numbersBehind (F_X5_kindAt 145 p μ) μ))), (4, kI (p + 1))] μ) ∧ (¬ (¬ (F_X5_numbersBehind (F_X5_kindAt 145 p μ) μ) = 0) → isC 145 5 ∧ P_X5_startAt 145 p μ ∧ isC 145 5 ∧ P_X5_refuse 145 1 (F_X5_startAt 145 p μ) μ ∧ (∀ (μ39 : Mem) (rv40 : Int), Q_X5_refuse 145 1 (F_X5_startAt 145 p μ) μ μ39 rv40 → (0 ≤ rv40 ∧ rv40 ≤ 1) ∧ R μ39 (some (kI rv40)))))) ∧ (¬ (¬ (F_X5_kindAt 145 p μ) = (3 : Int)) → (r32 (0 : Int) ∧ r32 (1 : Int)) ∧ ((¬ (0 : Int) = (1 : Int)) → isC 145 5 ∧ P_X5_startAt 145 p μ ∧ isC 145 5 ∧ P_X5_refuse 145 1 (F_X5_startAt 145 p μ) μ ∧ (∀ (μ44 : Mem) (rv45 : Int), Q_X5_refuse 145 1 (F_X5_startAt 145 p μ) μ μ44 rv45 → (0 ≤ rv45 ∧ rv45 ≤ 1) ∧ R μ44 (some (kI rv45)))) ∧ (¬ (¬ (0 : Int) = (1 : Int)) → P_X5_numbersBehind (F_X5_kindAt 145 p μ) μ ∧ r32 (F_X5_numbersBehind (F_X5_kindAt 145 p μ) μ) ∧ ((¬ (F_X5_numbersBehind (F_X5_kindAt 145 p μ) μ) = 0) → P_X5_numbersBehind (F_X5_kindAt 145 p μ) μ ∧ V_X5_isText R 80 [(0, kR 145), (1, kI ((p + 1) + (F_X5_numbersBehind (F_X5_kindAt 145 p μ) μ))), (4, kI (p + 1))] μ) ∧ (¬ (¬ (F_X5_numbersBehind (F_X5_kindAt 145 p μ) μ) = 0) → isC 145 5 ∧ P_X5_startAt 145 p μ ∧ isC 145 5 ∧ P_X5_refuse 145 1 (F_X5_startAt 145 p μ) μ ∧ (∀ (μ47 : Mem) (rv48 : Int), Q_X5_refuse 145 1 (F_X5_startAt 145 p μ) μ μ47 rv48 → (0 ≤ rv48 ∧ rv48 ≤ 1) ∧ R μ47 (some (kI rv48))))))) ∧ (¬ (¬ p = 0) → (r32 (F_X5_kindAt 145 p μ) ∧ r32 (3 : Int)) ∧ ((¬ (F_X5_kindAt 145 p μ) = (3 : Int)) → (r32 (1 : Int) ∧ r32 (0 : Int)) ∧ ((¬ (1 : Int) = (0 : Int)) → isC 145 5 ∧ P_X5_startAt 145 p μ ∧ isC 145 5 ∧ P_X5_refuse 145 1 (F_X5_startAt 145 p μ) μ ∧ (∀ (μ53 : Mem) (rv54 : Int), Q_X5_refuse 145 1 (F_X5_startAt 145 p μ) μ μ53 rv54 → (0 ≤ rv54 ∧ rv54 ≤ 1) ∧ R μ53 (some (kI rv54)))) ∧ (¬ (¬ (1 : Int) = (0 : Int)) → P_X5_numbersBehind (F_X5_kindAt 145 p μ) μ ∧ r32 (F_X5_numbersBehind (F_X5_kindAt 145 p μ) μ) ∧ ((¬ (F_X5_numbersBehind (F_X5_kindAt 145 p μ) μ) = 0) → P_X5_numbersBehind (F_X5_kindAt 145 p μ) μ ∧ V_X5_isText R 80 [(0, kR 145), (1, kI ((p + 1) + (F_X5_numbersBehind (F_X5_kindAt 145 p μ) μ))), (4, kI (p + 1))] μ) ∧ (¬ (¬ (F_X5_numbersBehind (F_X5_kindAt 145 p μ) μ) = 0) → isC 145 5 ∧ P_X5_startAt 145 p μ ∧ isC 145 5 ∧ P_X5_refuse 145 1 (F_X5_startAt 145 p μ) μ ∧ (∀ (μ56 : Mem) (rv57 : Int), Q_X5_refuse 145 1 (F_X5_startAt 145 p μ) μ μ56 rv57 → (0 ≤ rv57 ∧ rv57 ≤ 1) ∧ R μ56 (some (kI rv57)))))) ∧ (¬ (¬ (F_X5_kindAt 145 p μ) = (3 : Int)) → (r32 (1 : Int) ∧ r32 (1 : Int)) ∧ ((¬ (1 : Int) = (1 : Int)) → isC 145 5 ∧ P_X5_startAt 145 p μ ∧ isC 145 5 ∧ P_X5_refuse 145 1 (F_X5_startAt 145 p μ) μ ∧ (∀ (μ61 : Mem) (rv62 : Int), Q_X5_refuse 145 1 (F_X5_startAt 145 p μ) μ μ61 rv62 → (0 ≤ rv62 ∧ rv62 ≤ 1) ∧ R μ61 (some (kI rv62)))) ∧ (¬ (¬ (1 : Int) = (1 : Int)) → P_X5_numbersBehind (F_X5_kindAt 145 p μ) μ ∧ r32 (F_X5_numbersBehind (F_X5_kindAt 145 p μ) μ) ∧ ((¬ (F_X5_numbersBehind (F_X5_kindAt 145 p μ) μ) = 0) → P_X5_numbersBehind (F_X5_kindAt 145 p μ) μ ∧ V_X5_isText R 80 [(0, kR 145), (1, kI ((p + 1) + (F_X5_numbersBehind (F_X5_kindAt 145 p μ) μ))), (4, kI (p + 1))] μ) ∧ (¬ (¬ (F_X5_numbersBehind (F_X5_kindAt 145 p μ) μ) = 0) → isC 145 5 ∧ P_X5_startAt 145 p μ ∧ isC 145 5 ∧ P_X5_refuse 145 1 (F_X5_startAt 145 p μ) μ ∧ (∀ (μ64 : Mem) (rv65 : Int), Q_X5_refuse 145 1 (F_X5_startAt 145 p μ) μ μ64 rv65 → (0 ≤ rv65 ∧ rv65 ≤ 1) ∧ R μ64 (some (kI rv65)))))))) ∧ (¬ (¬ (F_X5_kindAt 145 p μ) = 0) → (0 ≤ (1 : Int) ∧ (1 : Int) ≤ 1) ∧ R μ (some (kI 1)))))
  exact ⟨c_145, ⟨⟨H.1, H.2.1⟩, fun hc73 => ⟨⟨by omega, by omega⟩, (H.2.2.1 hc73)⟩, fun hc73 => ⟨c_145, (H.2.2.2 hc73).1, ⟨(H.2.2.2 hc73).2.1, fun hc72 => ⟨((H.2.2.2 hc73).2.2.1 hc72).1, fun hc35 => ⟨⟨(((H.2.2.2 hc73).2.2.1 hc72).2.1 hc35).1, by unfold r32; omega⟩, fun hc17 => ⟨⟨by unfold r32; omega, by unfold r32; omega⟩, fun q => absurd q (by omega), fun _ => ⟨((((H.2.2.2 hc73).2.2.1 hc72).2.1 hc35).2.1 hc17).1, ⟨((((H.2.2.2 hc73).2.2.1 hc72).2.1 hc35).2.1 hc17).2.1, fun hc7 => ⟨(((((H.2.2.2 hc73).2.2.1 hc72).2.1 hc35).2.1 hc17).2.2.1 hc7).1, (((((H.2.2.2 hc73).2.2.1 hc72).2.1 hc35).2.1 hc17).2.2.1 hc7).2⟩, fun hc7 => ⟨c_145, (((((H.2.2.2 hc73).2.2.1 hc72).2.1 hc35).2.1 hc17).2.2.2 hc7).1, ⟨c_145, (((((H.2.2.2 hc73).2.2.1 hc72).2.1 hc35).2.1 hc17).2.2.2 hc7).2.1, fun μ4 rv5 hq6 => ((((((H.2.2.2 hc73).2.2.1 hc72).2.1 hc35).2.1 hc17).2.2.2 hc7).2.2 μ4 rv5 hq6)⟩⟩⟩⟩⟩, fun hc17 => ⟨⟨by unfold r32; omega, by unfold r32; omega⟩, fun _ => ⟨c_145, ((((H.2.2.2 hc73).2.2.1 hc72).2.1 hc35).2.2 hc17).1, ⟨c_145, ((((H.2.2.2 hc73).2.2.1 hc72).2.1 hc35).2.2 hc17).2.1, fun μ9 rv10 hq11 => (((((H.2.2.2 hc73).2.2.1 hc72).2.1 hc35).2.2 hc17).2.2 μ9 rv10 hq11)⟩⟩, fun q => absurd (by omega) q⟩⟩, fun hc35 => ⟨⟨(((H.2.2.2 hc73).2.2.1 hc72).2.2 hc35).1, by unfold r32; omega⟩, fun hc34 => ⟨⟨by unfold r32; omega, by unfold r32; omega⟩, fun _ => ⟨c_145, ((((H.2.2.2 hc73).2.2.1 hc72).2.2 hc35).2.1 hc34).1, ⟨c_145, ((((H.2.2.2 hc73).2.2.1 hc72).2.2 hc35).2.1 hc34).2.1, fun μ18 rv19 hq20 => (((((H.2.2.2 hc73).2.2.1 hc72).2.2 hc35).2.1 hc34).2.2 μ18 rv19 hq20)⟩⟩, fun q => absurd (by omega) q⟩, fun hc34 => ⟨⟨by unfold r32; omega, by unfold r32; omega⟩, fun q => absurd q (by omega), fun _ => ⟨((((H.2.2.2 hc73).2.2.1 hc72).2.2 hc35).2.2 hc34).1, ⟨((((H.2.2.2 hc73).2.2.1 hc72).2.2 hc35).2.2 hc34).2.1, fun hc32 => ⟨(((((H.2.2.2 hc73).2.2.1 hc72).2.2 hc35).2.2 hc34).2.2.1 hc32).1, (((((H.2.2.2 hc73).2.2.1 hc72).2.2 hc35).2.2 hc34).2.2.1 hc32).2⟩, fun hc32 => ⟨c_145, (((((H.2.2.2 hc73).2.2.1 hc72).2.2 hc35).2.2 hc34).2.2.2 hc32).1, ⟨c_145, (((((H.2.2.2 hc73).2.2.1 hc72).2.2 hc35).2.2 hc34).2.2.2 hc32).2.1, fun μ29 rv30 hq31 => ((((((H.2.2.2 hc73).2.2.1 hc72).2.2 hc35).2.2 hc34).2.2.2 hc32).2.2 μ29 rv30 hq31)⟩⟩⟩⟩⟩⟩⟩, fun hc72 => ⟨((H.2.2.2 hc73).2.2.2 hc72).1, fun hc71 => ⟨(((H.2.2.2 hc73).2.2.2 hc72).2.1 hc71).1, fun hc70 => ⟨⟨((((H.2.2.2 hc73).2.2.2 hc72).2.1 hc71).2.1 hc70).1, by unfold r32; omega⟩, fun hc52 => ⟨⟨by unfold r32; omega, by unfold r32; omega⟩, fun q => absurd q (by omega), fun _ => ⟨(((((H.2.2.2 hc73).2.2.2 hc72).2.1 hc71).2.1 hc70).2.1 hc52).1, ⟨(((((H.2.2.2 hc73).2.2.2 hc72).2.1 hc71).2.1 hc70).2.1 hc52).2.1, fun hc42 => ⟨((((((H.2.2.2 hc73).2.2.2 hc72).2.1 hc71).2.1 hc70).2.1 hc52).2.2.1 hc42).1, ((((((H.2.2.2 hc73).2.2.2 hc72).2.1 hc71).2.1 hc70).2.1 hc52).2.2.1 hc42).2⟩, fun hc42 => ⟨c_145, ((((((H.2.2.2 hc73).2.2.2 hc72).2.1 hc71).2.1 hc70).2.1 hc52).2.2.2 hc42).1, ⟨c_145, ((((((H.2.2.2 hc73).2.2.2 hc72).2.1 hc71).2.1 hc70).2.1 hc52).2.2.2 hc42).2.1, fun μ39 rv40 hq41 => (((((((H.2.2.2 hc73).2.2.2 hc72).2.1 hc71).2.1 hc70).2.1 hc52).2.2.2 hc42).2.2 μ39 rv40 hq41)⟩⟩⟩⟩⟩, fun hc52 => ⟨⟨by unfold r32; omega, by unfold r32; omega⟩, fun _ => ⟨c_145, (((((H.2.2.2 hc73).2.2.2 hc72).2.1 hc71).2.1 hc70).2.2 hc52).1, ⟨c_145, (((((H.2.2.2 hc73).2.2.2 hc72).2.1 hc71).2.1 hc70).2.2 hc52).2.1, fun μ44 rv45 hq46 => ((((((H.2.2.2 hc73).2.2.2 hc72).2.1 hc71).2.1 hc70).2.2 hc52).2.2 μ44 rv45 hq46)⟩⟩, fun q => absurd (by omega) q⟩⟩, fun hc70 => ⟨⟨((((H.2.2.2 hc73).2.2.2 hc72).2.1 hc71).2.2 hc70).1, by unfold r32; omega⟩, fun hc69 => ⟨⟨by unfold r32; omega, by unfold r32; omega⟩, fun _ => ⟨c_145, (((((H.2.2.2 hc73).2.2.2 hc72).2.1 hc71).2.2 hc70).2.1 hc69).1, ⟨c_145, (((((H.2.2.2 hc73).2.2.2 hc72).2.1 hc71).2.2 hc70).2.1 hc69).2.1, fun μ53 rv54 hq55 => ((((((H.2.2.2 hc73).2.2.2 hc72).2.1 hc71).2.2 hc70).2.1 hc69).2.2 μ53 rv54 hq55)⟩⟩, fun q => absurd (by omega) q⟩, fun hc69 => ⟨⟨by unfold r32; omega, by unfold r32; omega⟩, fun q => absurd q (by omega), fun _ => ⟨(((((H.2.2.2 hc73).2.2.2 hc72).2.1 hc71).2.2 hc70).2.2 hc69).1, ⟨(((((H.2.2.2 hc73).2.2.2 hc72).2.1 hc71).2.2 hc70).2.2 hc69).2.1, fun hc67 => ⟨((((((H.2.2.2 hc73).2.2.2 hc72).2.1 hc71).2.2 hc70).2.2 hc69).2.2.1 hc67).1, ((((((H.2.2.2 hc73).2.2.2 hc72).2.1 hc71).2.2 hc70).2.2 hc69).2.2.1 hc67).2⟩, fun hc67 => ⟨c_145, ((((((H.2.2.2 hc73).2.2.2 hc72).2.1 hc71).2.2 hc70).2.2 hc69).2.2.2 hc67).1, ⟨c_145, ((((((H.2.2.2 hc73).2.2.2 hc72).2.1 hc71).2.2 hc70).2.2 hc69).2.2.2 hc67).2.1, fun μ64 rv65 hq66 => (((((((H.2.2.2 hc73).2.2.2 hc72).2.1 hc71).2.2 hc70).2.2 hc69).2.2.2 hc67).2.2 μ64 rv65 hq66)⟩⟩⟩⟩⟩⟩⟩, fun hc71 => ⟨⟨by omega, by omega⟩, (((H.2.2.2 hc73).2.2.2 hc72).2.2 hc71)⟩⟩⟩⟩⟩⟩
set_option maxRecDepth 20000 in
theorem vc_X5_isText_80 {R : Mem → Option AV → Prop} {nx i : Int} {μ : Mem} (H : r32 i ∧ r32 nx ∧ ((nx < i) → V_X5_isText R 2 [(0, kR 145), (2, kI (nx + 1))] μ) ∧ (¬ (nx < i) → P_X5_kindAt 145 i μ ∧ r32 i ∧ r32 nx ∧ ((nx ≤ i) → r32 (F_X5_kindAt 145 i μ) ∧ (((F_X5_kindAt 145 i μ) = (1 : Int)) → V_X5_isText R 80 [(0, kR 145), (1, kI nx), (4, kI (i + 1))] μ) ∧ (¬ ((F_X5_kindAt 145 i μ) = (1 : Int)) → P_X5_startAt 145 i μ ∧ P_X5_refuse 145 1 (F_X5_startAt 145 i μ) μ ∧ (∀ (μ74 : Mem) (rv75 : Int), Q_X5_refuse 145 1 (F_X5_startAt 145 i μ) μ μ74 rv75 → (0 ≤ rv75 ∧ rv75 ≤ 1) ∧ R μ74 (some (kI rv75))))) ∧ (¬ (nx ≤ i) → r32 (F_X5_kindAt 145 i μ) ∧ (((F_X5_kindAt 145 i μ) = (2 : Int)) → V_X5_isText R 80 [(0, kR 145), (1, kI nx), (4, kI (i + 1))] μ) ∧ (¬ ((F_X5_kindAt 145 i μ) = (2 : Int)) → P_X5_startAt 145 i μ ∧ P_X5_refuse 145 1 (F_X5_startAt 145 i μ) μ ∧ (∀ (μ78 : Mem) (rv79 : Int), Q_X5_refuse 145 1 (F_X5_startAt 145 i μ) μ μ78 rv79 → (0 ≤ rv79 ∧ rv79 ≤ 1) ∧ R μ78 (some (kI rv79))))))) : V_X5_isText R 80 [(0, kR 145), (1, kI nx), (4, kI i)] μ := by
  refine vm_step2 mt_X5_isText ok_X5_isText [(2, [0, 2]), (80, [0, 1, 4])] 1000 ?_
  show (r32 i ∧ r32 nx) ∧ ((nx < i) → V_X5_isText R 2 [(0, kR 145), (2, kI (nx + 1))] μ) ∧ (¬ (nx < i) → isC 145 5 ∧ P_X5_kindAt 145 i μ ∧ (r32 i ∧ r32 nx) ∧ ((nx ≤ i) → (r32 (F_X5_kindAt 145 i μ) ∧ r32 (1 : Int)) ∧ (((F_X5_kindAt 145 i μ) = (1 : Int)) → V_X5_isText R 80 [(0, kR 145), (1, kI nx), (4, kI (i + 1))] μ) ∧ (¬ ((F_X5_kindAt 145 i μ) = (1 : Int)) → isC 145 5 ∧ P_X5_startAt 145 i μ ∧ isC 145 5 ∧ P_X5_refuse 145 1 (F_X5_startAt 145 i μ) μ ∧ (∀ (μ74 : Mem) (rv75 : Int), Q_X5_refuse 145 1 (F_X5_startAt 145 i μ) μ μ74 rv75 → (0 ≤ rv75 ∧ rv75 ≤ 1) ∧ R μ74 (some (kI rv75))))) ∧ (¬ (nx ≤ i) → (r32 (F_X5_kindAt 145 i μ) ∧ r32 (2 : Int)) ∧ (((F_X5_kindAt 145 i μ) = (2 : Int)) → V_X5_isText R 80 [(0, kR 145), (1, kI nx), (4, kI (i + 1))] μ) ∧ (¬ ((F_X5_kindAt 145 i μ) = (2 : Int)) → isC 145 5 ∧ P_X5_startAt 145 i μ ∧ isC 145 5 ∧ P_X5_refuse 145 1 (F_X5_startAt 145 i μ) μ ∧ (∀ (μ78 : Mem) (rv79 : Int), Q_X5_refuse 145 1 (F_X5_startAt 145 i μ) μ μ78 rv79 → (0 ≤ rv79 ∧ rv79 ≤ 1) ∧ R μ78 (some (kI rv79))))))
  exact ⟨⟨H.1, H.2.1⟩, fun hc83 => (H.2.2.1 hc83), fun hc83 => ⟨c_145, (H.2.2.2 hc83).1, ⟨⟨(H.2.2.2 hc83).2.1, (H.2.2.2 hc83).2.2.1⟩, fun hc82 => ⟨⟨((H.2.2.2 hc83).2.2.2.1 hc82).1, by unfold r32; omega⟩, fun hc77 => (((H.2.2.2 hc83).2.2.2.1 hc82).2.1 hc77), fun hc77 => ⟨c_145, (((H.2.2.2 hc83).2.2.2.1 hc82).2.2 hc77).1, ⟨c_145, (((H.2.2.2 hc83).2.2.2.1 hc82).2.2 hc77).2.1, fun μ74 rv75 hq76 => ((((H.2.2.2 hc83).2.2.2.1 hc82).2.2 hc77).2.2 μ74 rv75 hq76)⟩⟩⟩, fun hc82 => ⟨⟨((H.2.2.2 hc83).2.2.2.2 hc82).1, by unfold r32; omega⟩, fun hc81 => (((H.2.2.2 hc83).2.2.2.2 hc82).2.1 hc81), fun hc81 => ⟨c_145, (((H.2.2.2 hc83).2.2.2.2 hc82).2.2 hc81).1, ⟨c_145, (((H.2.2.2 hc83).2.2.2.2 hc82).2.2 hc81).2.1, fun μ78 rv79 hq80 => ((((H.2.2.2 hc83).2.2.2.2 hc82).2.2 hc81).2.2 μ78 rv79 hq80)⟩⟩⟩⟩⟩⟩
theorem body_X5_isText {o : Int} {μ : Mem} {R : Mem → Option AV → Prop} (h : P_X5_isText o μ) (hR : ∀ (μ' : Mem) (r : Int), Q_X5_isText o μ μ' r → R μ' (some (kI r))) : V_X5_isText R 0 [(0, kR o)] μ := by
  obtain ⟨rfl, hb⟩ := h
  have ht := hb.1
  unfold Q_X5_isText at hR
  have kb := fun (i : Int) => (Km_bd hb i).1
  have sb := fun (i : Int) => (Km_bd hb i).2
  have good : gramN (Km μ) 502 0 < 0 → R μ (some (kI 1)) := fun c => hR μ 1 ⟨fun _ => ⟨rfl, rfl⟩, fun q => by omega⟩
  have pk : ∀ i : Int, -10 ≤ i → i ≤ 2000 → P_X5_kindAt 145 i μ := fun i i0 i1 => ⟨rfl, rr (by omega), by omega⟩
  have ref : ∀ q : Int, 0 ≤ q → q ≤ 2000 → gramN (Km μ) 502 0 = q → P_X5_startAt 145 q μ ∧ P_X5_refuse 145 1 (F_X5_startAt 145 q μ) μ ∧ ∀ (μ4 : Mem) (rv5 : Int), Q_X5_refuse 145 1 (F_X5_startAt 145 q μ) μ μ4 rv5 → (0 ≤ rv5 ∧ rv5 ≤ 1) ∧ R μ4 (some (kI rv5)) := by
    intro q q0 q1 hq
    have s1 := sb q
    refine ⟨⟨rfl, rr (by omega), by omega⟩, ⟨rfl, rr (by omega), ?_⟩, fun m4 r5 q5 => ?_⟩
    · show r32 (Sm μ q)
      exact rr (by omega)
    · obtain ⟨e1, e2⟩ := q5
      subst e1
      refine ⟨by omega, hR m4 0 ⟨fun c => by omega, fun _ => ⟨rfl, ?_⟩⟩⟩
      rw [e2, hq]; rfl
  have loop : ∀ f : Nat, ∀ p : Int, 0 ≤ p → p ≤ 600 → 502 ≤ p + f → gramN (Km μ) 502 0 = gramN (Km μ) f p → V_X5_isText R 2 [(0, kR 145), (2, kI p)] μ := by
    intro f
    induction f with
    | zero =>
      intro p p0 p6 hp he
      exact vc_X5_isText_2 ⟨rr (by omega), rr (by omega), fun _ => good (by rw [he]; show (-1 : Int) < 0; decide), fun c => absurd (show μ 145 3 ≤ p by omega) c⟩
    | succ f ih =>
      intro p p0 p6 hp he
      have hg : gramN (Km μ) (f + 1) p = if 0 < p ∧ Km μ p = 0 then -1 else if 0 ≤ lineE (Km μ) p then lineE (Km μ) p else gramN (Km μ) f (p + 2 + nbK (Km μ p)) := rfl
      rw [hg] at he
      have kp := kb p
      have nb := nbK_bd (k := Km μ p)
      by_cases hpt : μ 145 3 ≤ p
      · have hk : Km μ p = 0 := by unfold Km; rw [if_neg (by omega)]
        rw [if_pos ⟨by omega, hk⟩] at he
        exact vc_X5_isText_2 ⟨rr (by omega), rr (by omega), fun _ => good (by omega), fun c => absurd hpt c⟩
      · -- the first of a line
        have ref0 : ((p = 0 ∧ Km μ p ≠ 3) ∨ (p ≠ 0 ∧ Km μ p = 3) ∨ nbK (Km μ p) = 0) → ¬ (0 < p ∧ Km μ p = 0) → P_X5_startAt 145 p μ ∧ P_X5_refuse 145 1 (F_X5_startAt 145 p μ) μ ∧ ∀ (μ4 : Mem) (rv5 : Int), Q_X5_refuse 145 1 (F_X5_startAt 145 p μ) μ μ4 rv5 → (0 ≤ rv5 ∧ rv5 ≤ 1) ∧ R μ4 (some (kI rv5)) := by
          intro c c2
          have e : lineE (Km μ) p = p := by unfold lineE; rw [if_pos c]
          rw [if_neg c2, e, if_pos p0] at he
          exact ref p p0 (by omega) he
        -- the others
        have inner : ¬ (0 < p ∧ Km μ p = 0) → ¬ ((p = 0 ∧ Km μ p ≠ 3) ∨ (p ≠ 0 ∧ Km μ p = 3) ∨ nbK (Km μ p) = 0) → V_X5_isText R 80 [(0, kR 145), (1, kI (p + 1 + nbK (Km μ p))), (4, kI (p + 1))] μ := by
          intro c2 c3
          have le : lineE (Km μ) p = if frst (lineQ (Km μ) p) (nbK (Km μ p) + 1) < 0 then -1 else p + 1 + frst (lineQ (Km μ) p) (nbK (Km μ p) + 1) := by unfold lineE; rw [if_neg c3]
          rw [if_neg c2] at he
          have pi : ∀ j : Int, 0 ≤ j → j ≤ nbK (Km μ p) + 1 → (∀ k : Int, 0 ≤ k → k < j → lineQ (Km μ) p k = false) → V_X5_isText R 80 [(0, kR 145), (1, kI (p + 1 + nbK (Km μ p))), (4, kI (p + 1 + j))] μ := by
            refine up_ind (P := fun j => (∀ k : Int, 0 ≤ k → k < j → lineQ (Km μ) p k = false) → V_X5_isText R 80 [(0, kR 145), (1, kI (p + 1 + nbK (Km μ p))), (4, kI (p + 1 + j))] μ) ?_ ?_
            · intro j j0 j1 ihj hk
              have kj := kb (p + 1 + j)
              have bad : lineQ (Km μ) p j = true → P_X5_startAt 145 (p + 1 + j) μ ∧ P_X5_refuse 145 1 (F_X5_startAt 145 (p + 1 + j) μ) μ ∧ ∀ (μ4 : Mem) (rv5 : Int), Q_X5_refuse 145 1 (F_X5_startAt 145 (p + 1 + j) μ) μ μ4 rv5 → (0 ≤ rv5 ∧ rv5 ≤ 1) ∧ R μ4 (some (kI rv5)) := fun hq => by
                have e := frst_at j0 j1 hq hk
                rw [e, if_neg (by omega)] at le
                rw [le, if_pos (by omega)] at he
                exact ref _ (by omega) (by omega) he
              have nx : lineQ (Km μ) p j = false → V_X5_isText R 80 [(0, kR 145), (1, kI (p + 1 + nbK (Km μ p))), (4, kI (p + 1 + j + 1))] μ := fun hq => by
                have h := ihj (fun k k0 k1 => by
                  by_cases e : k = j
                  · rw [e]; exact hq
                  · exact hk k k0 (by omega))
                rw [← Int.add_assoc] at h
                exact h
              refine vc_X5_isText_80 ?_
              unfold F_X5_kindAt
              refine ⟨rr (by omega), rr (by omega), fun c => absurd c (by omega), fun _ => ⟨pk _ (by omega) (by omega), rr (by omega), rr (by omega), fun c => ⟨rr (by omega), fun c4 => nx ?_, fun c4 => bad ?_⟩, fun c => ⟨rr (by omega), fun c4 => nx ?_, fun c4 => bad ?_⟩⟩⟩
              · unfold lineQ; rw [if_neg (by omega), decide_eq_true c4]; rfl
              · unfold lineQ; rw [if_neg (by omega), decide_eq_false c4]; rfl
              · unfold lineQ; rw [if_pos (by omega), decide_eq_true c4]; rfl
              · unfold lineQ; rw [if_pos (by omega), decide_eq_false c4]; rfl
            · intro hk
              rw [frst_none (by omega) hk, if_pos (by omega)] at le
              rw [le, if_neg (by omega)] at he
              have e : p + 1 + nbK (Km μ p) + 1 = p + 2 + nbK (Km μ p) := by omega
              refine vc_X5_isText_80 ⟨rr (by omega), rr (by omega), fun _ => ?_, fun c => absurd (show p + 1 + nbK (Km μ p) < p + 1 + (nbK (Km μ p) + 1) by omega) c⟩
              rw [e]
              exact ih _ (by omega) (by omega) (by omega) he
          have := pi 0 (Int.le_refl _) (by omega) (fun k k0 k1 => absurd k0 (by omega))
          rw [Int.add_zero] at this
          exact this
        refine vc_X5_isText_2 ?_
        unfold F_X5_kindAt F_X5_numbersBehind P_X5_numbersBehind
        have rk : r32 (Km μ p) := rr (by omega)
        have rn : r32 (nbK (Km μ p)) := rr (by omega)
        refine ⟨rr (by omega), rr (by omega), fun c => absurd c hpt, fun _ => ⟨pk p (by omega) (by omega), rr (by omega), fun c => ⟨rr (by omega), fun c2 => absurd (show p = 0 by omega) c2, fun c2 => ⟨rk, fun c3 => ref0 (Or.inl ⟨by omega, c3⟩) (by omega), fun c3 => ⟨rk, rn, fun c4 => ⟨rk, inner (by omega) (by omega)⟩, fun c4 => ref0 (Or.inr (Or.inr (by omega))) (by omega)⟩⟩⟩, fun c => ⟨rk, fun c2 => ⟨rr (by omega), fun c3 => ⟨rk, fun c4 => ⟨rk, rn, fun c5 => ⟨rk, inner (by omega) (by omega)⟩, fun c5 => ref0 (Or.inr (Or.inr (by omega))) (by omega)⟩, fun c4 => ref0 (Or.inr (Or.inl ⟨by omega, by omega⟩)) (by omega)⟩, fun c3 => absurd (show ¬ p = 0 by omega) c3⟩, fun c2 => good ?_⟩⟩⟩
        rw [if_pos ⟨by omega, by omega⟩] at he
        omega
  exact vc_X5_isText_0 (loop 502 0 (by omega) (by omega) (by omega) rfl)
theorem ct_X5_isText : Ct mX5_isText 1 22 0 0 (nrmS S_X5_isText) := by
  refine ct_vm (own := RX5) (by decide +kernel) rfl ?_ ?_
  · intro as μ Q hS
    unfold S_X5_isText at hS
    split at hS
    · exact Nat.le_of_ble_eq_true rfl
    · exact hS.elim
  · intro as μ R hS
    unfold S_X5_isText at hS
    split at hS
    · exact body_X5_isText hS.1 hS.2
    · exact hS.elim
