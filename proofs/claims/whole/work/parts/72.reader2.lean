/-- the tokens, as they lie in the reader -/
def TokR (μ : Mem) (tx : Int → Int) (n : Int) : Prop := ∃ nt : Int, (0 ≤ nt ∧ nt ≤ 500) ∧ μ 145 3 = nt + 1 ∧ (∀ i : Int, 0 ≤ i → i < nt → stT tx n i < n) ∧ stT tx n nt = n ∧ ∀ i : Int, 0 ≤ i → i ≤ nt → μ 146 i = KT tx n i ∧ μ 147 i = stT tx n i ∧ (i < nt → μ 148 i = VT tx n i)
def P_X5_cut (o z n : Int) (μ : Mem) : Prop := o = 145 ∧ z = 2 ∧ (0 ≤ n ∧ n ≤ 500) ∧ TapeR μ
def Q_X5_cut (_ _ n : Int) (μ μ' : Mem) : Prop := TokR μ' (μ 2) n ∧ (∀ f : Int, f ≠ 3 → μ' 145 f = μ 145 f) ∧ ∀ y : Int, (y < 145 ∨ 148 < y) → μ' y = μ y
def S_X5_cut : S0t := fun as μ Q => match as with
  | [(2, x0), (2, x1), (0, x2)] => P_X5_cut x0 x1 x2 μ ∧ ∀ (μ' : Mem) , Q_X5_cut x0 x1 x2 μ μ'  → Q μ' none
  | _ => False
theorem mono_X5_cut : Mono S_X5_cut := by
  intro as μ Q Q' h hS
  unfold S_X5_cut at hS ⊢
  split at hS
  · exact ⟨hS.1, fun μ' q => h _ _ (hS.2 _ q)⟩
  · exact hS.elim
def iX5_cut : Inf := (kX5_cut, fTX5, pTX5, cTX5, lTX5, sTX5, [(63, 0, 3, 5, S_X5_add), (53, 1, 3, 0, S_X5_endOfToken), (57, 1, 3, 0, S_X5_kindOf), (60, 1, 3, 0, S_X5_valueOf)])
theorem ok_X5_cut : infOK iX5_cut mX5_cut RX5 2 46 := ⟨kkX5_cut, fTX5_ok, pTX5_ok _, cTX5_ok, lTX5_ok, sTX5_ok, c_cons ⟨mX5_add, 0, 0, ct_X5_add, mmX5_add, vvX5_add, lkX5_63, ⟨by decide, by decide⟩, ⟨_, _, rfl⟩, by decide, mono_X5_add⟩ (c_cons ⟨mX5_endOfToken, 1, 20, ct_X5_endOfToken, mmX5_endOfToken, stX5_endOfToken, lkX5_53, ⟨by decide, by decide⟩, mono_X5_endOfToken⟩ (c_cons ⟨mX5_kindOf, 1, 24, ct_X5_kindOf, mmX5_kindOf, stX5_kindOf, lkX5_57, ⟨by decide, by decide⟩, mono_X5_kindOf⟩ (c_cons ⟨mX5_valueOf, 0, 0, ct_X5_valueOf, mmX5_valueOf, stX5_valueOf, lkX5_60, ⟨by decide, by decide⟩, mono_X5_valueOf⟩ (c_nil))))⟩
theorem mt_X5_cut : mtOK [] RX5 2 46 := mt_nil
abbrev V_X5_cut (R : Mem → Option AV → Prop) (pc : Nat) (lc : List (Nat × AV)) (μ : Mem) : Prop := VM mX5_cut RX5 2 46 R pc lc [] μ
set_option maxRecDepth 20000 in
theorem vc_X5_cut_0 {R : Mem → Option AV → Prop} {n : Int} {μ : Mem} (H : V_X5_cut R 5 [(0, kR 145), (1, kR 2), (2, kI n)] (updm μ 145 3 0)) : V_X5_cut R 0 [(0, kR 145), (1, kR 2), (2, kI n)] μ := by
  refine vm_step2 mt_X5_cut ok_X5_cut [(5, [0, 1, 2]), (10, [0, 1, 2, 3, 4]), (68, [0, 1, 2, 3, 4])] 1000 ?_
  show isC 145 5 ∧ 0 = 0 ∧ True ∧ V_X5_cut R 5 [(0, kR 145), (1, kR 2), (2, kI n)] (updm μ 145 3 0)
  exact ⟨c_145, rfl, trivial, H⟩
set_option maxRecDepth 20000 in
theorem vc_X5_cut_5 {R : Mem → Option AV → Prop} {n : Int} {μ : Mem} (H : V_X5_cut R 10 [(0, kR 145), (1, kR 2), (2, kI n), (3, kI 0), (4, kI 0)] μ) : V_X5_cut R 5 [(0, kR 145), (1, kR 2), (2, kI n)] μ := by
  refine vm_step2 mt_X5_cut ok_X5_cut [(5, [0, 1, 2]), (10, [0, 1, 2, 3, 4]), (68, [0, 1, 2, 3, 4])] 1000 ?_
  show V_X5_cut R 10 [(0, kR 145), (1, kR 2), (2, kI n), (3, kI 0), (4, kI 0)] μ
  exact H
set_option maxRecDepth 20000 in
theorem vc_X5_cut_10 {R : Mem → Option AV → Prop} {n nx p : Int} {μ : Mem} (H : r32 p ∧ r32 n ∧ ((n ≤ p) → P_X5_add 145 0 n 0 μ ∧ (∀ (μ1 : Mem), Q_X5_add 145 0 n 0 μ μ1 → R μ1 none)) ∧ (¬ (n ≤ p) → r32 p ∧ r32 nx ∧ ((p < nx) → V_X5_cut R 68 [(0, kR 145), (1, kR 2), (2, kI n), (3, kI nx), (4, kI p)] μ) ∧ (¬ (p < nx) → (0 ≤ p ∧ p < 500) ∧ r32 (μ 2 p) ∧ (((μ 2 p) = (32 : Int)) → V_X5_cut R 68 [(0, kR 145), (1, kR 2), (2, kI n), (3, kI nx), (4, kI p)] μ) ∧ (¬ ((μ 2 p) = (32 : Int)) → (0 ≤ p ∧ p < 500) ∧ r32 (μ 2 p) ∧ (((μ 2 p) = (10 : Int)) → V_X5_cut R 68 [(0, kR 145), (1, kR 2), (2, kI n), (3, kI nx), (4, kI p)] μ) ∧ (¬ ((μ 2 p) = (10 : Int)) → P_X5_endOfToken 2 p n μ ∧ P_X5_kindOf 2 p (F_X5_endOfToken 2 p n μ) μ ∧ P_X5_valueOf 2 p (F_X5_endOfToken 2 p n μ) μ ∧ P_X5_add 145 (F_X5_kindOf 2 p (F_X5_endOfToken 2 p n μ) μ) p (F_X5_valueOf 2 p (F_X5_endOfToken 2 p n μ) μ) μ ∧ (∀ (μ4 : Mem), Q_X5_add 145 (F_X5_kindOf 2 p (F_X5_endOfToken 2 p n μ) μ) p (F_X5_valueOf 2 p (F_X5_endOfToken 2 p n μ) μ) μ μ4 → V_X5_cut R 68 [(0, kR 145), (1, kR 2), (2, kI n), (3, kI (F_X5_endOfToken 2 p n μ)), (4, kI p)] μ4)))))) : V_X5_cut R 10 [(0, kR 145), (1, kR 2), (2, kI n), (3, kI nx), (4, kI p)] μ := by
  refine vm_step2 mt_X5_cut ok_X5_cut [(5, [0, 1, 2]), (10, [0, 1, 2, 3, 4]), (68, [0, 1, 2, 3, 4])] 1000 ?_
  show (r32 p ∧ r32 n) ∧ ((n ≤ p) → isC 145 5 ∧ P_X5_add 145 0 n 0 μ ∧ (∀ (μ1 : Mem), Q_X5_add 145 0 n 0 μ μ1 → R μ1 none)) ∧ (¬ (n ≤ p) → (r32 p ∧ r32 nx) ∧ ((p < nx) → V_X5_cut R 68 [(0, kR 145), (1, kR 2), (2, kI n), (3, kI nx), (4, kI p)] μ) ∧ (¬ (p < nx) → (inA 2 2 p ∨ inA 2 3 p) ∧ (r32 (μ 2 p) ∧ r32 (32 : Int)) ∧ (((μ 2 p) = (32 : Int)) → V_X5_cut R 68 [(0, kR 145), (1, kR 2), (2, kI n), (3, kI nx), (4, kI p)] μ) ∧ (¬ ((μ 2 p) = (32 : Int)) → (inA 2 2 p ∨ inA 2 3 p) ∧ (r32 (μ 2 p) ∧ r32 (10 : Int)) ∧ (((μ 2 p) = (10 : Int)) → V_X5_cut R 68 [(0, kR 145), (1, kR 2), (2, kI n), (3, kI nx), (4, kI p)] μ) ∧ (¬ ((μ 2 p) = (10 : Int)) → P_X5_endOfToken 2 p n μ ∧ P_X5_kindOf 2 p (F_X5_endOfToken 2 p n μ) μ ∧ P_X5_valueOf 2 p (F_X5_endOfToken 2 p n μ) μ ∧ isC 145 5 ∧ P_X5_add 145 (F_X5_kindOf 2 p (F_X5_endOfToken 2 p n μ) μ) p (F_X5_valueOf 2 p (F_X5_endOfToken 2 p n μ) μ) μ ∧ (∀ (μ4 : Mem), Q_X5_add 145 (F_X5_kindOf 2 p (F_X5_endOfToken 2 p n μ) μ) p (F_X5_valueOf 2 p (F_X5_endOfToken 2 p n μ) μ) μ μ4 → V_X5_cut R 68 [(0, kR 145), (1, kR 2), (2, kI n), (3, kI (F_X5_endOfToken 2 p n μ)), (4, kI p)] μ4)))))
  exact ⟨⟨H.1, H.2.1⟩, fun hc10 => ⟨c_145, (H.2.2.1 hc10).1, fun μ1 hq3 => ((H.2.2.1 hc10).2 μ1 hq3)⟩, fun hc10 => ⟨⟨(H.2.2.2 hc10).1, (H.2.2.2 hc10).2.1⟩, fun hc9 => ((H.2.2.2 hc10).2.2.1 hc9), fun hc9 => ⟨Or.inl (isArr.in a_2 ((H.2.2.2 hc10).2.2.2 hc9).1.1 ((H.2.2.2 hc10).2.2.2 hc9).1.2), ⟨⟨((H.2.2.2 hc10).2.2.2 hc9).2.1, by unfold r32; omega⟩, fun hc8 => (((H.2.2.2 hc10).2.2.2 hc9).2.2.1 hc8), fun hc8 => ⟨Or.inl (isArr.in a_2 (((H.2.2.2 hc10).2.2.2 hc9).2.2.2 hc8).1.1 (((H.2.2.2 hc10).2.2.2 hc9).2.2.2 hc8).1.2), ⟨⟨(((H.2.2.2 hc10).2.2.2 hc9).2.2.2 hc8).2.1, by unfold r32; omega⟩, fun hc7 => ((((H.2.2.2 hc10).2.2.2 hc9).2.2.2 hc8).2.2.1 hc7), fun hc7 => ⟨((((H.2.2.2 hc10).2.2.2 hc9).2.2.2 hc8).2.2.2 hc7).1, ⟨((((H.2.2.2 hc10).2.2.2 hc9).2.2.2 hc8).2.2.2 hc7).2.1, ⟨((((H.2.2.2 hc10).2.2.2 hc9).2.2.2 hc8).2.2.2 hc7).2.2.1, ⟨c_145, ((((H.2.2.2 hc10).2.2.2 hc9).2.2.2 hc8).2.2.2 hc7).2.2.2.1, fun μ4 hq6 => (((((H.2.2.2 hc10).2.2.2 hc9).2.2.2 hc8).2.2.2 hc7).2.2.2.2 μ4 hq6)⟩⟩⟩⟩⟩⟩⟩⟩⟩⟩
set_option maxRecDepth 20000 in
theorem vc_X5_cut_68 {R : Mem → Option AV → Prop} {n nx p : Int} {μ : Mem} (H : V_X5_cut R 10 [(0, kR 145), (1, kR 2), (2, kI n), (3, kI nx), (4, kI (p + 1))] μ) : V_X5_cut R 68 [(0, kR 145), (1, kR 2), (2, kI n), (3, kI nx), (4, kI p)] μ := by
  refine vm_step2 mt_X5_cut ok_X5_cut [(5, [0, 1, 2]), (10, [0, 1, 2, 3, 4]), (68, [0, 1, 2, 3, 4])] 1000 ?_
  show V_X5_cut R 10 [(0, kR 145), (1, kR 2), (2, kI n), (3, kI nx), (4, kI (p + 1))] μ
  exact H
theorem body_X5_cut {o z n : Int} {μ : Mem} {R : Mem → Option AV → Prop} (h : P_X5_cut o z n μ) (hR : ∀ μ' : Mem, Q_X5_cut o z n μ μ' → R μ' none) : V_X5_cut R 0 [(0, kR o), (1, kR z), (2, kI n)] μ := by
  obtain ⟨rfl, rfl, hn, ht⟩ := h
  unfold Q_X5_cut at hR
  generalize htx : μ 2 = tx at hR
  have hB : ∀ (m : Mem) (i : Int), m 145 3 = i → ∀ k s x : Int, ∀ m' : Mem, Q_X5_add 145 k s x m m' → m' 145 3 = i + 1 ∧ m' 146 i = k ∧ m' 147 i = s ∧ m' 148 i = x ∧ (∀ j : Int, j ≠ i → m' 146 j = m 146 j ∧ m' 147 j = m 147 j ∧ m' 148 j = m 148 j) ∧ (∀ f : Int, f ≠ 3 → m' 145 f = m 145 f) ∧ ∀ y : Int, (y < 145 ∨ 148 < y) → m' y = m y := by
    intro m i hi k s x m' hq
    obtain ⟨q1, q2, q3, q4, q5⟩ := hq
    rw [hi] at q1 q2 q3 q4
    refine ⟨by rw [q4, r1_eq], by rw [q1, r1_eq], by rw [q2, r1_eq], by rw [q3, r1_eq], fun j hj => ⟨by rw [q1, r1_ne hj], by rw [q2, r1_ne hj], by rw [q3, r1_ne hj]⟩, fun f hf => by rw [q4, r1_ne hf], q5⟩
  -- q: where the next token is looked for
  have fin : ∀ p nx q i : Int, p = n → (0 ≤ nx ∧ nx ≤ n) → (p ≤ q ∧ nx ≤ q ∧ (q = p ∨ q = nx)) → 0 ≤ i → i ≤ q → skpT tx q n = stT tx n i → ∀ m : Mem, m 145 3 = i → (∀ f : Int, f ≠ 3 → m 145 f = μ 145 f) → (∀ y : Int, (y < 145 ∨ 148 < y) → m y = μ y) → (∀ j : Int, 0 ≤ j → j < i → stT tx n j < n ∧ m 146 j = KT tx n j ∧ m 147 j = stT tx n j ∧ m 148 j = VT tx n j) → V_X5_cut R 10 [(0, kR 145), (1, kR 2), (2, kI n), (3, kI nx), (4, kI p)] m := by
    intro p nx q i hp hnx hq i0 i1 hs m h3 hff hf ha
    have hqn : q = n := by omega
    have hsk : skpT tx q n = n := by rw [hqn]; exact runE_e (fun c => by omega)
    have hst : stT tx n i = n := by omega
    refine vc_X5_cut_10 ⟨rr (by omega), rr (by omega), fun _ => ⟨⟨rfl, by omega⟩, fun m1 q1 => ?_⟩, fun c => absurd (show n ≤ p by omega) c⟩
    obtain ⟨b1, b2, b3, b4, b5, b6, b7⟩ := hB m i h3 _ _ _ m1 q1
    refine hR m1 ⟨⟨i, by omega, b1, fun j j0 j1 => (ha j j0 j1).1, hst, fun j j0 j1 => ?_⟩, fun f hf3 => by rw [b6 f hf3]; exact hff f hf3, fun y hy => by rw [b7 y hy]; exact hf y hy⟩
    by_cases e : j = i
    · subst e
      refine ⟨?_, by rw [b3]; exact hst.symm, fun c => absurd c (by omega)⟩
      rw [b2]; unfold KT; rw [if_neg (by omega)]
    · have h1 := ha j j0 (by omega)
      have h2 := b5 j e
      exact ⟨by rw [h2.1]; exact h1.2.1, by rw [h2.2.1]; exact h1.2.2.1, fun _ => by rw [h2.2.2]; exact h1.2.2.2⟩
  have key : ∀ d : Nat, ∀ p nx q i : Int, n - p ≤ d → 0 ≤ p → p ≤ n → (0 ≤ nx ∧ nx ≤ n) → (p ≤ q ∧ nx ≤ q ∧ (q = p ∨ q = nx)) → 0 ≤ i → i ≤ q → skpT tx q n = stT tx n i → ∀ m : Mem, m 145 3 = i → (∀ f : Int, f ≠ 3 → m 145 f = μ 145 f) → (∀ y : Int, (y < 145 ∨ 148 < y) → m y = μ y) → (∀ j : Int, 0 ≤ j → j < i → stT tx n j < n ∧ m 146 j = KT tx n j ∧ m 147 j = stT tx n j ∧ m 148 j = VT tx n j) → V_X5_cut R 10 [(0, kR 145), (1, kR 2), (2, kI n), (3, kI nx), (4, kI p)] m := by
    intro d
    induction d with
    | zero =>
      intro p nx q i hd p0 p1 hnx hq i0 i1 hs m h3 hff hf ha
      exact fin p nx q i (by omega) hnx hq i0 i1 hs m h3 hff hf ha
    | succ d ih =>
      intro p nx q i hd p0 p1 hnx hq i0 i1 hs m h3 hff hf ha
      by_cases hp : p = n
      · exact fin p nx q i hp hnx hq i0 i1 hs m h3 hff hf ha
      · have e2 : m 2 = tx := by rw [hf 2 (by omega)]; exact htx
        have ht2 : TapeR m := by
          unfold TapeR
          rw [hf 2 (by omega)]
          exact ht
        have hb := ht p p0 (by omega)
        rw [htx] at hb
        refine vc_X5_cut_10 ?_
        rw [e2]
        refine ⟨rr (by omega), rr (by omega), fun c => absurd c (by omega), fun _ => ⟨rr (by omega), rr (by omega), fun c => vc_X5_cut_68 (ih (p + 1) nx q i (by omega) (by omega) (by omega) hnx (by omega) i0 i1 hs m h3 hff hf ha), fun cn => ?_⟩⟩
        have hqp : q = p := by omega
        rw [hqp] at hs i1
        -- a blank
        have blank : isBl (tx p) = true → V_X5_cut R 68 [(0, kR 145), (1, kR 2), (2, kI n), (3, kI nx), (4, kI p)] m := fun hbl => vc_X5_cut_68 (ih (p + 1) nx (p + 1) i (by omega) (by omega) (by omega) hnx (by omega) i0 (by omega) (by
          rw [← hs]
          exact (runE_s (q := fun i => isBl (tx i)) (show p < n by omega) hbl).symm) m h3 hff hf ha)
        refine ⟨by omega, rr (by omega), fun c => blank (decide_eq_true (Or.inl c)), fun c => ⟨by omega, rr (by omega), fun c2 => blank (decide_eq_true (Or.inr c2)), fun c2 => ?_⟩⟩
        have nb : ¬ isBl (tx p) = true := fun q => (of_decide_eq_true q).elim c c2
        have hsp : skpT tx p n = p := runE_e (fun q => nb q.2)
        have hst : stT tx n i = p := by omega
        have he := endT_bd (tx := tx) (show p < n by omega)
        unfold F_X5_endOfToken F_X5_kindOf F_X5_valueOf
        rw [e2]
        refine ⟨⟨rfl, by omega, by omega, ht2⟩, ⟨rfl, by omega, by omega, ht2⟩, ⟨rfl, by omega, by omega⟩, ⟨rfl, by omega⟩, fun m4 q4 => vc_X5_cut_68 ?_⟩
        obtain ⟨b1, b2, b3, b4, b5, b6, b7⟩ := hB m i h3 _ _ _ m4 q4
        have hpos : posT tx n (i + 1) = endT tx p n := by
          rw [posT_s i0]
          unfold nxtT
          have e5 : skpT tx (posT tx n i) n = p := hst
          rw [e5, if_pos (by omega)]
        refine ih (p + 1) (endT tx p n) (endT tx p n) (i + 1) (by omega) (by omega) (by omega) (by omega) (by omega) (by omega) (by omega) (by unfold stT; rw [hpos]) m4 b1 (fun f hf3 => by rw [b6 f hf3]; exact hff f hf3) (fun y hy => by rw [b7 y hy]; exact hf y hy) (fun j j0 j1 => ?_)
        by_cases e : j = i
        · subst e
          refine ⟨by omega, ?_, by rw [b3]; exact hst.symm, ?_⟩
          · rw [b2]; unfold KT; rw [hst, if_pos (by omega)]
          · rw [b4]; unfold VT; rw [hst]
        · have h1 := ha j j0 (by omega)
          have h2 := b5 j e
          exact ⟨h1.1, by rw [h2.1]; exact h1.2.1, by rw [h2.2.1]; exact h1.2.2.1, by rw [h2.2.2]; exact h1.2.2.2⟩
  refine vc_X5_cut_0 (vc_X5_cut_5 (key n.toNat 0 0 0 0 (by omega) (by omega) hn.1 (by omega) (by omega) (by omega) (by omega) rfl _ (by rw [ru_eq, r1_eq]) (fun f hf => by rw [ru_eq, r1_ne hf]) (fun y hy => ru_ne (by omega)) (fun j j0 j1 => absurd j0 (by omega))))
theorem ct_X5_cut : Ct mX5_cut 2 46 0 0 (nrmS S_X5_cut) := by
  refine ct_vm (own := RX5) (by decide +kernel) rfl ?_ ?_
  · intro as μ Q hS
    unfold S_X5_cut at hS
    split at hS
    · exact Nat.le_of_ble_eq_true rfl
    · exact hS.elim
  · intro as μ R hS
    unfold S_X5_cut at hS
    split at hS
    · exact body_X5_cut hS.1 hS.2
    · exact hS.elim
def P_X5_refuse (o k p : Int) (_ : Mem) : Prop := o = 145 ∧ r32 k ∧ r32 p
def Q_X5_refuse (_ k p : Int) (μ μ' : Mem) (r : Int) : Prop := r = 0 ∧ μ' = updm (updm μ 145 4 k) 145 5 p
def S_X5_refuse : S0t := fun as μ Q => match as with
  | [(2, x0), (0, x1), (0, x2)] => P_X5_refuse x0 x1 x2 μ ∧ ∀ (μ' : Mem) (r : Int), Q_X5_refuse x0 x1 x2 μ μ' r → Q μ' (some (kI r))
  | _ => False
theorem mono_X5_refuse : Mono S_X5_refuse := by
  intro as μ Q Q' h hS
  unfold S_X5_refuse at hS ⊢
  split at hS
  · exact ⟨hS.1, fun μ' r q => h _ _ (hS.2 _ _ q)⟩
  · exact hS.elim
def iX5_refuse : Inf := (kX5_refuse, fTX5, pTX5, cTX5, lTX5, sTX5, [])
theorem ok_X5_refuse : infOK iX5_refuse mX5_refuse RX5 0 0 := ⟨kkX5_refuse, fTX5_ok, pTX5_ok _, cTX5_ok, lTX5_ok, sTX5_ok, c_nil⟩
theorem mt_X5_refuse : mtOK [] RX5 0 0 := mt_nil
abbrev V_X5_refuse (R : Mem → Option AV → Prop) (pc : Nat) (lc : List (Nat × AV)) (μ : Mem) : Prop := VM mX5_refuse RX5 0 0 R pc lc [] μ
set_option maxRecDepth 20000 in
theorem vc_X5_refuse_0 {R : Mem → Option AV → Prop} {k p : Int} {μ : Mem} (H : V_X5_refuse R 5 [(0, kR 145), (2, kI p)] (updm μ 145 4 k)) : V_X5_refuse R 0 [(0, kR 145), (1, kI k), (2, kI p)] μ := by
  refine vm_step2 mt_X5_refuse ok_X5_refuse [(5, [0, 2]), (10, [])] 1000 ?_
  show isC 145 5 ∧ 0 = 0 ∧ True ∧ V_X5_refuse R 5 [(0, kR 145), (2, kI p)] (updm μ 145 4 k)
  exact ⟨c_145, rfl, trivial, H⟩
set_option maxRecDepth 20000 in
theorem vc_X5_refuse_5 {R : Mem → Option AV → Prop} {p : Int} {μ : Mem} (H : V_X5_refuse R 10 [] (updm μ 145 5 p)) : V_X5_refuse R 5 [(0, kR 145), (2, kI p)] μ := by
  refine vm_step2 mt_X5_refuse ok_X5_refuse [(5, [0, 2]), (10, [])] 1000 ?_
  show isC 145 5 ∧ 0 = 0 ∧ True ∧ V_X5_refuse R 10 [] (updm μ 145 5 p)
  exact ⟨c_145, rfl, trivial, H⟩
set_option maxRecDepth 20000 in
theorem vc_X5_refuse_10 {R : Mem → Option AV → Prop} {μ : Mem} (H : R μ (some (kI 0))) : V_X5_refuse R 10 [] μ := by
  refine vm_step2 mt_X5_refuse ok_X5_refuse [(5, [0, 2]), (10, [])] 1000 ?_
  show (0 ≤ (0 : Int) ∧ (0 : Int) ≤ 1) ∧ R μ (some (kI 0))
  exact ⟨⟨by omega, by omega⟩, H⟩
theorem body_X5_refuse {o k p : Int} {μ : Mem} {R : Mem → Option AV → Prop} (h : P_X5_refuse o k p μ) (hR : ∀ (μ' : Mem) (r : Int), Q_X5_refuse o k p μ μ' r → R μ' (some (kI r))) : V_X5_refuse R 0 [(0, kR o), (1, kI k), (2, kI p)] μ := by
  obtain ⟨rfl, _, _⟩ := h
  exact vc_X5_refuse_0 (vc_X5_refuse_5 (vc_X5_refuse_10 (hR _ 0 ⟨rfl, rfl⟩)))
theorem ct_X5_refuse : Ct mX5_refuse 0 0 0 0 (nrmS S_X5_refuse) := by
  refine ct_vm (own := RX5) (by decide +kernel) rfl ?_ ?_
  · intro as μ Q hS
    unfold S_X5_refuse at hS
    split at hS
    · exact Nat.le_of_ble_eq_true rfl
    · exact hS.elim
  · intro as μ R hS
    unfold S_X5_refuse at hS
    split at hS
    · exact body_X5_refuse hS.1 hS.2
    · exact hS.elim
def Km (μ : Mem) (i : Int) : Int := if 0 ≤ i ∧ i < μ 145 3 then μ 146 i else 0
def P_X5_kindAt (o i : Int) (μ : Mem) : Prop := o = 145 ∧ r32 i ∧ (0 ≤ μ 145 3 ∧ μ 145 3 ≤ 501)
def F_X5_kindAt (_ i : Int) (μ : Mem) : Int := Km μ i
def S_X5_kindAt : S0t := fun as μ Q => match as with
  | [(2, x0), (0, x1)] => P_X5_kindAt x0 x1 μ ∧ Q μ (some (kI (F_X5_kindAt x0 x1 μ)))
  | _ => False
theorem mono_X5_kindAt : Mono S_X5_kindAt := by
  intro as μ Q Q' h hS
  unfold S_X5_kindAt at hS ⊢
  split at hS
  · exact ⟨hS.1, h _ _ hS.2⟩
  · exact hS.elim
def iX5_kindAt : Inf := (kX5_kindAt, fTX5, pTX5, cTX5, lTX5, sTX5, [])
theorem ok_X5_kindAt : infOK iX5_kindAt mX5_kindAt RX5 0 0 := ⟨kkX5_kindAt, fTX5_ok, pTX5_ok _, cTX5_ok, lTX5_ok, sTX5_ok, c_nil⟩
theorem mt_X5_kindAt : mtOK [] RX5 0 0 := mt_nil
abbrev V_X5_kindAt (R : Mem → Option AV → Prop) (pc : Nat) (lc : List (Nat × AV)) (μ : Mem) : Prop := VM mX5_kindAt RX5 0 0 R pc lc [] μ
set_option maxRecDepth 20000 in
theorem vc_X5_kindAt_0 {R : Mem → Option AV → Prop} {i : Int} {μ : Mem} (H : r32 i ∧ ((i < 0) → R μ (some (kI 0))) ∧ (¬ (i < 0) → r32 i ∧ r32 (μ 145 3) ∧ (((μ 145 3) ≤ i) → R μ (some (kI 0))) ∧ (¬ ((μ 145 3) ≤ i) → (0 ≤ i ∧ i < 501) ∧ R μ (some (kI (μ 146 i)))))) : V_X5_kindAt R 0 [(0, kR 145), (1, kI i)] μ := by
  refine vm_step2 mt_X5_kindAt ok_X5_kindAt [] 1000 ?_
  show r32 i ∧ ((i < 0) → R μ (some (kI 0))) ∧ (¬ (i < 0) → isC 145 5 ∧ (r32 i ∧ r32 (μ 145 3)) ∧ (((μ 145 3) ≤ i) → R μ (some (kI 0))) ∧ (¬ ((μ 145 3) ≤ i) → isC 145 5 ∧ inA 146 0 i ∧ R μ (some (kI (μ 146 i)))))
  exact ⟨H.1, fun hc2 => (H.2.1 hc2), fun hc2 => ⟨c_145, ⟨⟨(H.2.2 hc2).1, (H.2.2 hc2).2.1⟩, fun hc1 => ((H.2.2 hc2).2.2.1 hc1), fun hc1 => ⟨c_145, ⟨isArr.in a_146 ((H.2.2 hc2).2.2.2 hc1).1.1 ((H.2.2 hc2).2.2.2 hc1).1.2, ((H.2.2 hc2).2.2.2 hc1).2⟩⟩⟩⟩⟩
theorem body_X5_kindAt {o i : Int} {μ : Mem} {R : Mem → Option AV → Prop} (h : P_X5_kindAt o i μ) (hR : R μ (some (kI (F_X5_kindAt o i μ)))) : V_X5_kindAt R 0 [(0, kR o), (1, kI i)] μ := by
  obtain ⟨rfl, hi, ht⟩ := h
  unfold F_X5_kindAt Km at hR
  refine vc_X5_kindAt_0 ⟨hi, fun c => ?_, fun c => ⟨hi, rr (by omega), fun c2 => ?_, fun c2 => ⟨by omega, ?_⟩⟩⟩
  · rw [if_neg (by omega)] at hR; exact hR
  · rw [if_neg (by omega)] at hR; exact hR
  · rw [if_pos (by omega)] at hR; exact hR
theorem ct_X5_kindAt : Ct mX5_kindAt 0 0 0 0 (nrmS S_X5_kindAt) := by
  refine ct_vm (own := RX5) (by decide +kernel) rfl ?_ ?_
  · intro as μ Q hS
    unfold S_X5_kindAt at hS
    split at hS
    · exact Nat.le_of_ble_eq_true rfl
    · exact hS.elim
  · intro as μ R hS
    unfold S_X5_kindAt at hS
    split at hS
    · exact body_X5_kindAt hS.1 hS.2
    · exact hS.elim
def Sm (μ : Mem) (i : Int) : Int := if 0 ≤ i ∧ i < μ 145 3 then μ 147 i else 0
def P_X5_startAt (o i : Int) (μ : Mem) : Prop := o = 145 ∧ r32 i ∧ (0 ≤ μ 145 3 ∧ μ 145 3 ≤ 501)
def F_X5_startAt (_ i : Int) (μ : Mem) : Int := Sm μ i
def S_X5_startAt : S0t := fun as μ Q => match as with
  | [(2, x0), (0, x1)] => P_X5_startAt x0 x1 μ ∧ Q μ (some (kI (F_X5_startAt x0 x1 μ)))
  | _ => False
theorem mono_X5_startAt : Mono S_X5_startAt := by
  intro as μ Q Q' h hS
  unfold S_X5_startAt at hS ⊢
  split at hS
  · exact ⟨hS.1, h _ _ hS.2⟩
  · exact hS.elim
def iX5_startAt : Inf := (kX5_startAt, fTX5, pTX5, cTX5, lTX5, sTX5, [])
theorem ok_X5_startAt : infOK iX5_startAt mX5_startAt RX5 0 0 := ⟨kkX5_startAt, fTX5_ok, pTX5_ok _, cTX5_ok, lTX5_ok, sTX5_ok, c_nil⟩
theorem mt_X5_startAt : mtOK [] RX5 0 0 := mt_nil
abbrev V_X5_startAt (R : Mem → Option AV → Prop) (pc : Nat) (lc : List (Nat × AV)) (μ : Mem) : Prop := VM mX5_startAt RX5 0 0 R pc lc [] μ
set_option maxRecDepth 20000 in
theorem vc_X5_startAt_0 {R : Mem → Option AV → Prop} {i : Int} {μ : Mem} (H : r32 i ∧ ((i < 0) → R μ (some (kI 0))) ∧ (¬ (i < 0) → r32 i ∧ r32 (μ 145 3) ∧ (((μ 145 3) ≤ i) → R μ (some (kI 0))) ∧ (¬ ((μ 145 3) ≤ i) → (0 ≤ i ∧ i < 501) ∧ R μ (some (kI (μ 147 i)))))) : V_X5_startAt R 0 [(0, kR 145), (1, kI i)] μ := by
  refine vm_step2 mt_X5_startAt ok_X5_startAt [] 1000 ?_
  show r32 i ∧ ((i < 0) → R μ (some (kI 0))) ∧ (¬ (i < 0) → isC 145 5 ∧ (r32 i ∧ r32 (μ 145 3)) ∧ (((μ 145 3) ≤ i) → R μ (some (kI 0))) ∧ (¬ ((μ 145 3) ≤ i) → isC 145 5 ∧ inA 147 0 i ∧ R μ (some (kI (μ 147 i)))))
  exact ⟨H.1, fun hc2 => (H.2.1 hc2), fun hc2 => ⟨c_145, ⟨⟨(H.2.2 hc2).1, (H.2.2 hc2).2.1⟩, fun hc1 => ((H.2.2 hc2).2.2.1 hc1), fun hc1 => ⟨c_145, ⟨isArr.in a_147 ((H.2.2 hc2).2.2.2 hc1).1.1 ((H.2.2 hc2).2.2.2 hc1).1.2, ((H.2.2 hc2).2.2.2 hc1).2⟩⟩⟩⟩⟩
theorem body_X5_startAt {o i : Int} {μ : Mem} {R : Mem → Option AV → Prop} (h : P_X5_startAt o i μ) (hR : R μ (some (kI (F_X5_startAt o i μ)))) : V_X5_startAt R 0 [(0, kR o), (1, kI i)] μ := by
  obtain ⟨rfl, hi, ht⟩ := h
  unfold F_X5_startAt Sm at hR
  refine vc_X5_startAt_0 ⟨hi, fun c => ?_, fun c => ⟨hi, rr (by omega), fun c2 => ?_, fun c2 => ⟨by omega, ?_⟩⟩⟩
  · rw [if_neg (by omega)] at hR; exact hR
  · rw [if_neg (by omega)] at hR; exact hR
  · rw [if_pos (by omega)] at hR; exact hR
theorem ct_X5_startAt : Ct mX5_startAt 0 0 0 0 (nrmS S_X5_startAt) := by
  refine ct_vm (own := RX5) (by decide +kernel) rfl ?_ ?_
  · intro as μ Q hS
    unfold S_X5_startAt at hS
    split at hS
    · exact Nat.le_of_ble_eq_true rfl
    · exact hS.elim
  · intro as μ R hS
    unfold S_X5_startAt at hS
    split at hS
    · exact body_X5_startAt hS.1 hS.2
    · exact hS.elim
def Vm (μ : Mem) (i : Int) : Int := if 0 ≤ i ∧ i < μ 145 3 then μ 148 i else 0
def P_X5_valueAt (o i : Int) (μ : Mem) : Prop := o = 145 ∧ r32 i ∧ (0 ≤ μ 145 3 ∧ μ 145 3 ≤ 501)
def F_X5_valueAt (_ i : Int) (μ : Mem) : Int := Vm μ i
def S_X5_valueAt : S0t := fun as μ Q => match as with
  | [(2, x0), (0, x1)] => P_X5_valueAt x0 x1 μ ∧ Q μ (some (kI (F_X5_valueAt x0 x1 μ)))
  | _ => False
theorem mono_X5_valueAt : Mono S_X5_valueAt := by
  intro as μ Q Q' h hS
  unfold S_X5_valueAt at hS ⊢
  split at hS
  · exact ⟨hS.1, h _ _ hS.2⟩
  · exact hS.elim
def iX5_valueAt : Inf := (kX5_valueAt, fTX5, pTX5, cTX5, lTX5, sTX5, [])
theorem ok_X5_valueAt : infOK iX5_valueAt mX5_valueAt RX5 0 0 := ⟨kkX5_valueAt, fTX5_ok, pTX5_ok _, cTX5_ok, lTX5_ok, sTX5_ok, c_nil⟩
theorem mt_X5_valueAt : mtOK [] RX5 0 0 := mt_nil
abbrev V_X5_valueAt (R : Mem → Option AV → Prop) (pc : Nat) (lc : List (Nat × AV)) (μ : Mem) : Prop := VM mX5_valueAt RX5 0 0 R pc lc [] μ
set_option maxRecDepth 20000 in
theorem vc_X5_valueAt_0 {R : Mem → Option AV → Prop} {i : Int} {μ : Mem} (H : r32 i ∧ ((i < 0) → R μ (some (kI 0))) ∧ (¬ (i < 0) → r32 i ∧ r32 (μ 145 3) ∧ (((μ 145 3) ≤ i) → R μ (some (kI 0))) ∧ (¬ ((μ 145 3) ≤ i) → (0 ≤ i ∧ i < 501) ∧ R μ (some (kI (μ 148 i)))))) : V_X5_valueAt R 0 [(0, kR 145), (1, kI i)] μ := by
  refine vm_step2 mt_X5_valueAt ok_X5_valueAt [] 1000 ?_
  show r32 i ∧ ((i < 0) → R μ (some (kI 0))) ∧ (¬ (i < 0) → isC 145 5 ∧ (r32 i ∧ r32 (μ 145 3)) ∧ (((μ 145 3) ≤ i) → R μ (some (kI 0))) ∧ (¬ ((μ 145 3) ≤ i) → isC 145 5 ∧ inA 148 0 i ∧ R μ (some (kI (μ 148 i)))))
  exact ⟨H.1, fun hc2 => (H.2.1 hc2), fun hc2 => ⟨c_145, ⟨⟨(H.2.2 hc2).1, (H.2.2 hc2).2.1⟩, fun hc1 => ((H.2.2 hc2).2.2.1 hc1), fun hc1 => ⟨c_145, ⟨isArr.in a_148 ((H.2.2 hc2).2.2.2 hc1).1.1 ((H.2.2 hc2).2.2.2 hc1).1.2, ((H.2.2 hc2).2.2.2 hc1).2⟩⟩⟩⟩⟩
theorem body_X5_valueAt {o i : Int} {μ : Mem} {R : Mem → Option AV → Prop} (h : P_X5_valueAt o i μ) (hR : R μ (some (kI (F_X5_valueAt o i μ)))) : V_X5_valueAt R 0 [(0, kR o), (1, kI i)] μ := by
  obtain ⟨rfl, hi, ht⟩ := h
  unfold F_X5_valueAt Vm at hR
  refine vc_X5_valueAt_0 ⟨hi, fun c => ?_, fun c => ⟨hi, rr (by omega), fun c2 => ?_, fun c2 => ⟨by omega, ?_⟩⟩⟩
  · rw [if_neg (by omega)] at hR; exact hR
  · rw [if_neg (by omega)] at hR; exact hR
  · rw [if_pos (by omega)] at hR; exact hR
theorem ct_X5_valueAt : Ct mX5_valueAt 0 0 0 0 (nrmS S_X5_valueAt) := by
  refine ct_vm (own := RX5) (by decide +kernel) rfl ?_ ?_
  · intro as μ Q hS
    unfold S_X5_valueAt at hS
    split at hS
    · exact Nat.le_of_ble_eq_true rfl
    · exact hS.elim
  · intro as μ R hS
    unfold S_X5_valueAt at hS
    split at hS
    · exact body_X5_valueAt hS.1 hS.2
    · exact hS.elim
def P_X5_numbersBehind (k : Int) (_ : Mem) : Prop := r32 k
def F_X5_numbersBehind (k : Int) (_ : Mem) : Int := nbK k
def S_X5_numbersBehind : S0t := fun as μ Q => match as with
  | [(0, x0)] => P_X5_numbersBehind x0 μ ∧ Q μ (some (kI (F_X5_numbersBehind x0 μ)))
  | _ => False
theorem mono_X5_numbersBehind : Mono S_X5_numbersBehind := by
  intro as μ Q Q' h hS
  unfold S_X5_numbersBehind at hS ⊢
  split at hS
  · exact ⟨hS.1, h _ _ hS.2⟩
  · exact hS.elim
def iX5_numbersBehind : Inf := (kX5_numbersBehind, fTX5, pTX5, cTX5, lTX5, sTX5, [])
theorem ok_X5_numbersBehind : infOK iX5_numbersBehind mX5_numbersBehind RX5 0 0 := ⟨kkX5_numbersBehind, fTX5_ok, pTX5_ok _, cTX5_ok, lTX5_ok, sTX5_ok, c_nil⟩
theorem mt_X5_numbersBehind : mtOK [] RX5 0 0 := mt_nil
abbrev V_X5_numbersBehind (R : Mem → Option AV → Prop) (pc : Nat) (lc : List (Nat × AV)) (μ : Mem) : Prop := VM mX5_numbersBehind RX5 0 0 R pc lc [] μ
set_option maxRecDepth 20000 in
theorem vc_X5_numbersBehind_0 {R : Mem → Option AV → Prop} {k : Int} {μ : Mem} (H : r32 k ∧ (k < 3 ∨ 9 < k → R μ (some (kI 0))) ∧ (k = 3 → R μ (some (kI 1))) ∧ (k = 4 → R μ (some (kI 3))) ∧ (k = 5 → R μ (some (kI 2))) ∧ (k = 6 → R μ (some (kI 2))) ∧ (k = 7 → R μ (some (kI 2))) ∧ (k = 8 → R μ (some (kI 1))) ∧ (k = 9 → R μ (some (kI 1)))) : V_X5_numbersBehind R 0 [(0, kI k)] μ := by
  refine vm_step2 mt_X5_numbersBehind ok_X5_numbersBehind [] 1000 ?_
  show r32 k ∧ (k < 3 ∨ 9 < k → R μ (some (kI 0))) ∧ (k = 3 → R μ (some (kI 1))) ∧ (k = 4 → R μ (some (kI 3))) ∧ (k = 5 → R μ (some (kI 2))) ∧ (k = 6 → R μ (some (kI 2))) ∧ (k = 7 → R μ (some (kI 2))) ∧ (k = 8 → R μ (some (kI 1))) ∧ (k = 9 → R μ (some (kI 1))) ∧ True
  exact ⟨H.1, fun hc1 => (H.2.1 hc1), fun hc1 => (H.2.2.1 hc1), fun hc1 => (H.2.2.2.1 hc1), fun hc1 => (H.2.2.2.2.1 hc1), fun hc1 => (H.2.2.2.2.2.1 hc1), fun hc1 => (H.2.2.2.2.2.2.1 hc1), fun hc1 => (H.2.2.2.2.2.2.2.1 hc1), fun hc1 => (H.2.2.2.2.2.2.2.2 hc1), trivial⟩
theorem body_X5_numbersBehind {k : Int} {μ : Mem} {R : Mem → Option AV → Prop} (h : P_X5_numbersBehind k μ) (hR : R μ (some (kI (F_X5_numbersBehind k μ)))) : V_X5_numbersBehind R 0 [(0, kI k)] μ := by
  unfold F_X5_numbersBehind at hR
  refine vc_X5_numbersBehind_0 ⟨h, fun c => ?_, fun c => ?_, fun c => ?_, fun c => ?_, fun c => ?_, fun c => ?_, fun c => ?_, fun c => ?_⟩
  · unfold nbK at hR
    rw [if_neg (by omega), if_neg (by omega), if_neg (by omega), if_neg (by omega), if_neg (by omega), if_neg (by omega), if_neg (by omega)] at hR
    exact hR
  all_goals (subst c; exact hR)
theorem ct_X5_numbersBehind : Ct mX5_numbersBehind 0 0 0 0 (nrmS S_X5_numbersBehind) := by
  refine ct_vm (own := RX5) (by decide +kernel) rfl ?_ ?_
  · intro as μ Q hS
    unfold S_X5_numbersBehind at hS
    split at hS
    · exact Nat.le_of_ble_eq_true rfl
    · exact hS.elim
  · intro as μ R hS
    unfold S_X5_numbersBehind at hS
    split at hS
    · exact body_X5_numbersBehind hS.1 hS.2
    · exact hS.elim
def TkB (μ : Mem) : Prop := (1 ≤ μ 145 3 ∧ μ 145 3 ≤ 501) ∧ ∀ i : Int, 0 ≤ i → i < μ 145 3 → (0 ≤ μ 146 i ∧ μ 146 i ≤ 10) ∧ (0 ≤ μ 147 i ∧ μ 147 i ≤ 500)
theorem Km_bd {μ : Mem} (h : TkB μ) (i : Int) : (0 ≤ Km μ i ∧ Km μ i ≤ 10) ∧ (0 ≤ Sm μ i ∧ Sm μ i ≤ 500) := by
  unfold Km Sm
  by_cases c : 0 ≤ i ∧ i < μ 145 3
  · rw [if_pos c, if_pos c]; exact h.2 i c.1 c.2
  · rw [if_neg c, if_neg c]; omega
def P_X5_isLine (o p b : Int) (μ : Mem) : Prop := o = 145 ∧ TkB μ ∧ (0 ≤ p ∧ p ≤ 600) ∧ ((p = 0 ∧ b = 1) ∨ (0 < p ∧ b = 0))
def Q_X5_isLine (_ p _ : Int) (μ μ' : Mem) (r : Int) : Prop := (lineE (Km μ) p < 0 → r = 1 ∧ μ' = μ) ∧ (0 ≤ lineE (Km μ) p → r = 0 ∧ μ' = updm (updm μ 145 4 1) 145 5 (Sm μ (lineE (Km μ) p)))
def S_X5_isLine : S0t := fun as μ Q => match as with
  | [(2, x0), (0, x1), (0, x2)] => P_X5_isLine x0 x1 x2 μ ∧ ∀ (μ' : Mem) (r : Int), Q_X5_isLine x0 x1 x2 μ μ' r → Q μ' (some (kI r))
  | _ => False
theorem mono_X5_isLine : Mono S_X5_isLine := by
  intro as μ Q Q' h hS
  unfold S_X5_isLine at hS ⊢
  split at hS
  · exact ⟨hS.1, fun μ' r q => h _ _ (hS.2 _ _ q)⟩
  · exact hS.elim
def iX5_isLine : Inf := (kX5_isLine, fTX5, pTX5, cTX5, lTX5, sTX5, [(104, 0, 1, 5, S_X5_kindAt), (108, 1, 1, 0, S_X5_numbersBehind), (111, 0, 1, 5, S_X5_startAt), (114, 0, 2, 5, S_X5_refuse)])
theorem ok_X5_isLine : infOK iX5_isLine mX5_isLine RX5 1 22 := ⟨kkX5_isLine, fTX5_ok, pTX5_ok _, cTX5_ok, lTX5_ok, sTX5_ok, c_cons ⟨mX5_kindAt, 0, 0, ct_X5_kindAt, mmX5_kindAt, vvX5_kindAt, lkX5_104, ⟨by decide, by decide⟩, ⟨_, _, rfl⟩, by decide, mono_X5_kindAt⟩ (c_cons ⟨mX5_numbersBehind, 0, 0, ct_X5_numbersBehind, mmX5_numbersBehind, stX5_numbersBehind, lkX5_108, ⟨by decide, by decide⟩, mono_X5_numbersBehind⟩ (c_cons ⟨mX5_startAt, 0, 0, ct_X5_startAt, mmX5_startAt, vvX5_startAt, lkX5_111, ⟨by decide, by decide⟩, ⟨_, _, rfl⟩, by decide, mono_X5_startAt⟩ (c_cons ⟨mX5_refuse, 0, 0, ct_X5_refuse, mmX5_refuse, vvX5_refuse, lkX5_114, ⟨by decide, by decide⟩, ⟨_, _, rfl⟩, by decide, mono_X5_refuse⟩ (c_nil))))⟩
theorem mt_X5_isLine : mtOK [] RX5 1 22 := mt_nil
abbrev V_X5_isLine (R : Mem → Option AV → Prop) (pc : Nat) (lc : List (Nat × AV)) (μ : Mem) : Prop := VM mX5_isLine RX5 1 22 R pc lc [] μ
set_option maxRecDepth 20000 in
theorem vc_X5_isLine_0 {R : Mem → Option AV → Prop} {p b : Int} {μ : Mem} (H : P_X5_kindAt 145 p μ ∧ P_X5_numbersBehind (F_X5_kindAt 145 p μ) μ ∧ r32 (F_X5_kindAt 145 p μ) ∧ ((¬ (F_X5_kindAt 145 p μ) = (3 : Int)) → r32 b ∧ ((¬ b = (0 : Int)) → P_X5_startAt 145 p μ ∧ P_X5_refuse 145 1 (F_X5_startAt 145 p μ) μ ∧ (∀ (μ1 : Mem) (rv2 : Int), Q_X5_refuse 145 1 (F_X5_startAt 145 p μ) μ μ1 rv2 → (0 ≤ rv2 ∧ rv2 ≤ 1) ∧ R μ1 (some (kI rv2)))) ∧ (¬ (¬ b = (0 : Int)) → r32 (F_X5_numbersBehind (F_X5_kindAt 145 p μ) μ) ∧ ((¬ (F_X5_numbersBehind (F_X5_kindAt 145 p μ) μ) = 0) → V_X5_isLine R 47 [(0, kR 145), (1, kI p), (4, kI (F_X5_numbersBehind (F_X5_kindAt 145 p μ) μ)), (5, kI (p + 1))] μ) ∧ (¬ (¬ (F_X5_numbersBehind (F_X5_kindAt 145 p μ) μ) = 0) → P_X5_startAt 145 p μ ∧ P_X5_refuse 145 1 (F_X5_startAt 145 p μ) μ ∧ (∀ (μ4 : Mem) (rv5 : Int), Q_X5_refuse 145 1 (F_X5_startAt 145 p μ) μ μ4 rv5 → (0 ≤ rv5 ∧ rv5 ≤ 1) ∧ R μ4 (some (kI rv5)))))) ∧ (¬ (¬ (F_X5_kindAt 145 p μ) = (3 : Int)) → r32 b ∧ ((¬ b = (1 : Int)) → P_X5_startAt 145 p μ ∧ P_X5_refuse 145 1 (F_X5_startAt 145 p μ) μ ∧ (∀ (μ9 : Mem) (rv10 : Int), Q_X5_refuse 145 1 (F_X5_startAt 145 p μ) μ μ9 rv10 → (0 ≤ rv10 ∧ rv10 ≤ 1) ∧ R μ9 (some (kI rv10)))) ∧ (¬ (¬ b = (1 : Int)) → r32 (F_X5_numbersBehind (F_X5_kindAt 145 p μ) μ) ∧ ((¬ (F_X5_numbersBehind (F_X5_kindAt 145 p μ) μ) = 0) → V_X5_isLine R 47 [(0, kR 145), (1, kI p), (4, kI (F_X5_numbersBehind (F_X5_kindAt 145 p μ) μ)), (5, kI (p + 1))] μ) ∧ (¬ (¬ (F_X5_numbersBehind (F_X5_kindAt 145 p μ) μ) = 0) → P_X5_startAt 145 p μ ∧ P_X5_refuse 145 1 (F_X5_startAt 145 p μ) μ ∧ (∀ (μ12 : Mem) (rv13 : Int), Q_X5_refuse 145 1 (F_X5_startAt 145 p μ) μ μ12 rv13 → (0 ≤ rv13 ∧ rv13 ≤ 1) ∧ R μ12 (some (kI rv13))))))) : V_X5_isLine R 0 [(0, kR 145), (1, kI p), (2, kI b)] μ := by
  refine vm_step2 mt_X5_isLine ok_X5_isLine [(47, [0, 1, 4, 5])] 1000 ?_
  show isC 145 5 ∧ P_X5_kindAt 145 p μ ∧ P_X5_numbersBehind (F_X5_kindAt 145 p μ) μ ∧ (r32 (F_X5_kindAt 145 p μ) ∧ r32 (3 : Int)) ∧ ((¬ (F_X5_kindAt 145 p μ) = (3 : Int)) → (r32 b ∧ r32 (0 : Int)) ∧ ((¬ b = (0 : Int)) → isC 145 5 ∧ P_X5_startAt 145 p μ ∧ isC 145 5 ∧ P_X5_refuse 145 1 (F_X5_startAt 145 p μ) μ ∧ (∀ (μ1 : Mem) (rv2 : Int), Q_X5_refuse 145 1 (F_X5_startAt 145 p μ) μ μ1 rv2 → (0 ≤ rv2 ∧ rv2 ≤ 1) ∧ R μ1 (some (kI rv2)))) ∧ (¬ (¬ b = (0 : Int)) → r32 (F_X5_numbersBehind (F_X5_kindAt 145 p μ) μ) ∧ ((¬ (F_X5_numbersBehind (F_X5_kindAt 145 p μ) μ) = 0) → V_X5_isLine R 47 [(0, kR 145), (1, kI p), (4, kI (F_X5_numbersBehind (F_X5_kindAt 145 p μ) μ)), (5, kI (p + 1))] μ) ∧ (¬ (¬ (F_X5_numbersBehind (F_X5_kindAt 145 p μ) μ) = 0) → isC 145 5 ∧ P_X5_startAt 145 p μ ∧ isC 145 5 ∧ P_X5_refuse 145 1 (F_X5_startAt 145 p μ) μ ∧ (∀ (μ4 : Mem) (rv5 : Int), Q_X5_refuse 145 1 (F_X5_startAt 145 p μ) μ μ4 rv5 → (0 ≤ rv5 ∧ rv5 ≤ 1) ∧ R μ4 (some (kI rv5)))))) ∧ (¬ (¬ (F_X5_kindAt 145 p μ) = (3 : Int)) → (r32 b ∧ r32 (1 : Int)) ∧ ((¬ b = (1 : Int)) → isC 145 5 ∧ P_X5_startAt 145 p μ ∧ isC 145 5 ∧ P_X5_refuse 145 1 (F_X5_startAt 145 p μ) μ ∧ (∀ (μ9 : Mem) (rv10 : Int), Q_X5_refuse 145 1 (F_X5_startAt 145 p μ) μ μ9 rv10 → (0 ≤ rv10 ∧ rv10 ≤ 1) ∧ R μ9 (some (kI rv10)))) ∧ (¬ (¬ b = (1 : Int)) → r32 (F_X5_numbersBehind (F_X5_kindAt 145 p μ) μ) ∧ ((¬ (F_X5_numbersBehind (F_X5_kindAt 145 p μ) μ) = 0) → V_X5_isLine R 47 [(0, kR 145), (1, kI p), (4, kI (F_X5_numbersBehind (F_X5_kindAt 145 p μ) μ)), (5, kI (p + 1))] μ) ∧ (¬ (¬ (F_X5_numbersBehind (F_X5_kindAt 145 p μ) μ) = 0) → isC 145 5 ∧ P_X5_startAt 145 p μ ∧ isC 145 5 ∧ P_X5_refuse 145 1 (F_X5_startAt 145 p μ) μ ∧ (∀ (μ12 : Mem) (rv13 : Int), Q_X5_refuse 145 1 (F_X5_startAt 145 p μ) μ μ12 rv13 → (0 ≤ rv13 ∧ rv13 ≤ 1) ∧ R μ12 (some (kI rv13))))))
  exact ⟨c_145, H.1, ⟨H.2.1, ⟨⟨H.2.2.1, by unfold r32; omega⟩, fun hc17 => ⟨⟨(H.2.2.2.1 hc17).1, by unfold r32; omega⟩, fun hc8 => ⟨c_145, ((H.2.2.2.1 hc17).2.1 hc8).1, ⟨c_145, ((H.2.2.2.1 hc17).2.1 hc8).2.1, fun μ1 rv2 hq3 => (((H.2.2.2.1 hc17).2.1 hc8).2.2 μ1 rv2 hq3)⟩⟩, fun hc8 => ⟨((H.2.2.2.1 hc17).2.2 hc8).1, fun hc7 => (((H.2.2.2.1 hc17).2.2 hc8).2.1 hc7), fun hc7 => ⟨c_145, (((H.2.2.2.1 hc17).2.2 hc8).2.2 hc7).1, ⟨c_145, (((H.2.2.2.1 hc17).2.2 hc8).2.2 hc7).2.1, fun μ4 rv5 hq6 => ((((H.2.2.2.1 hc17).2.2 hc8).2.2 hc7).2.2 μ4 rv5 hq6)⟩⟩⟩⟩, fun hc17 => ⟨⟨(H.2.2.2.2 hc17).1, by unfold r32; omega⟩, fun hc16 => ⟨c_145, ((H.2.2.2.2 hc17).2.1 hc16).1, ⟨c_145, ((H.2.2.2.2 hc17).2.1 hc16).2.1, fun μ9 rv10 hq11 => (((H.2.2.2.2 hc17).2.1 hc16).2.2 μ9 rv10 hq11)⟩⟩, fun hc16 => ⟨((H.2.2.2.2 hc17).2.2 hc16).1, fun hc15 => (((H.2.2.2.2 hc17).2.2 hc16).2.1 hc15), fun hc15 => ⟨c_145, (((H.2.2.2.2 hc17).2.2 hc16).2.2 hc15).1, ⟨c_145, (((H.2.2.2.2 hc17).2.2 hc16).2.2 hc15).2.1, fun μ12 rv13 hq14 => ((((H.2.2.2.2 hc17).2.2 hc16).2.2 hc15).2.2 μ12 rv13 hq14)⟩⟩⟩⟩⟩⟩⟩
set_option maxRecDepth 20000 in
theorem vc_X5_isLine_47 {R : Mem → Option AV → Prop} {p nb i : Int} {μ : Mem} (H : r32 i ∧ r32 ((p + nb) + 1) ∧ ((((p + nb) + 1) < i) → R μ (some (kI 1))) ∧ (¬ (((p + nb) + 1) < i) → P_X5_kindAt 145 i μ ∧ r32 i ∧ r32 (p + nb) ∧ (((p + nb) < i) → r32 (F_X5_kindAt 145 i μ) ∧ (((F_X5_kindAt 145 i μ) = (1 : Int)) → V_X5_isLine R 47 [(0, kR 145), (1, kI p), (4, kI nb), (5, kI (i + 1))] μ) ∧ (¬ ((F_X5_kindAt 145 i μ) = (1 : Int)) → P_X5_startAt 145 i μ ∧ P_X5_refuse 145 1 (F_X5_startAt 145 i μ) μ ∧ (∀ (μ18 : Mem) (rv19 : Int), Q_X5_refuse 145 1 (F_X5_startAt 145 i μ) μ μ18 rv19 → (0 ≤ rv19 ∧ rv19 ≤ 1) ∧ R μ18 (some (kI rv19))))) ∧ (¬ ((p + nb) < i) → r32 (F_X5_kindAt 145 i μ) ∧ (((F_X5_kindAt 145 i μ) = (2 : Int)) → V_X5_isLine R 47 [(0, kR 145), (1, kI p), (4, kI nb), (5, kI (i + 1))] μ) ∧ (¬ ((F_X5_kindAt 145 i μ) = (2 : Int)) → P_X5_startAt 145 i μ ∧ P_X5_refuse 145 1 (F_X5_startAt 145 i μ) μ ∧ (∀ (μ22 : Mem) (rv23 : Int), Q_X5_refuse 145 1 (F_X5_startAt 145 i μ) μ μ22 rv23 → (0 ≤ rv23 ∧ rv23 ≤ 1) ∧ R μ22 (some (kI rv23))))))) : V_X5_isLine R 47 [(0, kR 145), (1, kI p), (4, kI nb), (5, kI i)] μ := by
  refine vm_step2 mt_X5_isLine ok_X5_isLine [(47, [0, 1, 4, 5])] 1000 ?_
  show (r32 i ∧ r32 ((p + nb) + 1)) ∧ ((((p + nb) + 1) < i) → (0 ≤ (1 : Int) ∧ (1 : Int) ≤ 1) ∧ R μ (some (kI 1))) ∧ (¬ (((p + nb) + 1) < i) → isC 145 5 ∧ P_X5_kindAt 145 i μ ∧ (r32 i ∧ r32 (p + nb)) ∧ (((p + nb) < i) → (r32 (F_X5_kindAt 145 i μ) ∧ r32 (1 : Int)) ∧ (((F_X5_kindAt 145 i μ) = (1 : Int)) → V_X5_isLine R 47 [(0, kR 145), (1, kI p), (4, kI nb), (5, kI (i + 1))] μ) ∧ (¬ ((F_X5_kindAt 145 i μ) = (1 : Int)) → isC 145 5 ∧ P_X5_startAt 145 i μ ∧ isC 145 5 ∧ P_X5_refuse 145 1 (F_X5_startAt 145 i μ) μ ∧ (∀ (μ18 : Mem) (rv19 : Int), Q_X5_refuse 145 1 (F_X5_startAt 145 i μ) μ μ18 rv19 → (0 ≤ rv19 ∧ rv19 ≤ 1) ∧ R μ18 (some (kI rv19))))) ∧ (¬ ((p + nb) < i) → (r32 (F_X5_kindAt 145 i μ) ∧ r32 (2 : Int)) ∧ (((F_X5_kindAt 145 i μ) = (2 : Int)) → V_X5_isLine R 47 [(0, kR 145), (1, kI p), (4, kI nb), (5, kI (i + 1))] μ) ∧ (¬ ((F_X5_kindAt 145 i μ) = (2 : Int)) → isC 145 5 ∧ P_X5_startAt 145 i μ ∧ isC 145 5 ∧ P_X5_refuse 145 1 (F_X5_startAt 145 i μ) μ ∧ (∀ (μ22 : Mem) (rv23 : Int), Q_X5_refuse 145 1 (F_X5_startAt 145 i μ) μ μ22 rv23 → (0 ≤ rv23 ∧ rv23 ≤ 1) ∧ R μ22 (some (kI rv23))))))
  exact ⟨⟨H.1, H.2.1⟩, fun hc27 => ⟨⟨by omega, by omega⟩, (H.2.2.1 hc27)⟩, fun hc27 => ⟨c_145, (H.2.2.2 hc27).1, ⟨⟨(H.2.2.2 hc27).2.1, (H.2.2.2 hc27).2.2.1⟩, fun hc26 => ⟨⟨((H.2.2.2 hc27).2.2.2.1 hc26).1, by unfold r32; omega⟩, fun hc21 => (((H.2.2.2 hc27).2.2.2.1 hc26).2.1 hc21), fun hc21 => ⟨c_145, (((H.2.2.2 hc27).2.2.2.1 hc26).2.2 hc21).1, ⟨c_145, (((H.2.2.2 hc27).2.2.2.1 hc26).2.2 hc21).2.1, fun μ18 rv19 hq20 => ((((H.2.2.2 hc27).2.2.2.1 hc26).2.2 hc21).2.2 μ18 rv19 hq20)⟩⟩⟩, fun hc26 => ⟨⟨((H.2.2.2 hc27).2.2.2.2 hc26).1, by unfold r32; omega⟩, fun hc25 => (((H.2.2.2 hc27).2.2.2.2 hc26).2.1 hc25), fun hc25 => ⟨c_145, (((H.2.2.2 hc27).2.2.2.2 hc26).2.2 hc25).1, ⟨c_145, (((H.2.2.2 hc27).2.2.2.2 hc26).2.2 hc25).2.1, fun μ22 rv23 hq24 => ((((H.2.2.2 hc27).2.2.2.2 hc26).2.2 hc25).2.2 μ22 rv23 hq24)⟩⟩⟩⟩⟩⟩
theorem body_X5_isLine {o p b : Int} {μ : Mem} {R : Mem → Option AV → Prop} (h : P_X5_isLine o p b μ) (hR : ∀ (μ' : Mem) (r : Int), Q_X5_isLine o p b μ μ' r → R μ' (some (kI r))) : V_X5_isLine R 0 [(0, kR o), (1, kI p), (2, kI b)] μ := by
  obtain ⟨rfl, hb, hp, hh⟩ := h
  have ht := hb.1
  unfold Q_X5_isLine at hR
  have kb := fun (i : Int) => (Km_bd hb i).1
  have sb := fun (i : Int) => (Km_bd hb i).2
  have kp := kb p
  have nb := nbK_bd (k := Km μ p)
  have good : lineE (Km μ) p < 0 → R μ (some (kI 1)) := fun c => hR μ 1 ⟨fun _ => ⟨rfl, rfl⟩, fun q => by omega⟩
  have pk : ∀ i : Int, -10 ≤ i → i ≤ 2000 → P_X5_kindAt 145 i μ := fun i i0 i1 => ⟨rfl, rr (by omega), by omega⟩
  have ref : ∀ q : Int, 0 ≤ q → q ≤ 2000 → lineE (Km μ) p = q → P_X5_startAt 145 q μ ∧ P_X5_refuse 145 1 (F_X5_startAt 145 q μ) μ ∧ ∀ (μ4 : Mem) (rv5 : Int), Q_X5_refuse 145 1 (F_X5_startAt 145 q μ) μ μ4 rv5 → (0 ≤ rv5 ∧ rv5 ≤ 1) ∧ R μ4 (some (kI rv5)) := by
    intro q q0 q1 hq
    have s1 := sb q
    refine ⟨⟨rfl, rr (by omega), by omega⟩, ⟨rfl, rr (by omega), ?_⟩, fun m4 r5 q5 => ?_⟩
    · show r32 (Sm μ q)
      exact rr (by omega)
    · obtain ⟨e1, e2⟩ := q5
      subst e1
      refine ⟨by omega, hR m4 0 ⟨fun c => by omega, fun _ => ⟨rfl, ?_⟩⟩⟩
      rw [e2, hq]; rfl
  -- the first of the line
  have ref0 : ((p = 0 ∧ Km μ p ≠ 3) ∨ (p ≠ 0 ∧ Km μ p = 3) ∨ nbK (Km μ p) = 0) → P_X5_startAt 145 p μ ∧ P_X5_refuse 145 1 (F_X5_startAt 145 p μ) μ ∧ ∀ (μ4 : Mem) (rv5 : Int), Q_X5_refuse 145 1 (F_X5_startAt 145 p μ) μ μ4 rv5 → (0 ≤ rv5 ∧ rv5 ≤ 1) ∧ R μ4 (some (kI rv5)) := fun c => ref p hp.1 (by omega) (by unfold lineE; rw [if_pos c])
  -- the others
  have inner : ¬ ((p = 0 ∧ Km μ p ≠ 3) ∨ (p ≠ 0 ∧ Km μ p = 3) ∨ nbK (Km μ p) = 0) → V_X5_isLine R 47 [(0, kR 145), (1, kI p), (4, kI (nbK (Km μ p))), (5, kI (p + 1))] μ := by
    intro c3
    have le : lineE (Km μ) p = if frst (lineQ (Km μ) p) (nbK (Km μ p) + 1) < 0 then -1 else p + 1 + frst (lineQ (Km μ) p) (nbK (Km μ p) + 1) := by unfold lineE; rw [if_neg c3]
    have pi : ∀ j : Int, 0 ≤ j → j ≤ nbK (Km μ p) + 1 → (∀ k : Int, 0 ≤ k → k < j → lineQ (Km μ) p k = false) → V_X5_isLine R 47 [(0, kR 145), (1, kI p), (4, kI (nbK (Km μ p))), (5, kI (p + 1 + j))] μ := by
      refine up_ind (P := fun j => (∀ k : Int, 0 ≤ k → k < j → lineQ (Km μ) p k = false) → V_X5_isLine R 47 [(0, kR 145), (1, kI p), (4, kI (nbK (Km μ p))), (5, kI (p + 1 + j))] μ) ?_ ?_
      · intro j j0 j1 ihj hk
        have kj := kb (p + 1 + j)
        have bad : lineQ (Km μ) p j = true → P_X5_startAt 145 (p + 1 + j) μ ∧ P_X5_refuse 145 1 (F_X5_startAt 145 (p + 1 + j) μ) μ ∧ ∀ (μ4 : Mem) (rv5 : Int), Q_X5_refuse 145 1 (F_X5_startAt 145 (p + 1 + j) μ) μ μ4 rv5 → (0 ≤ rv5 ∧ rv5 ≤ 1) ∧ R μ4 (some (kI rv5)) := fun hq => by
          have e := frst_at j0 j1 hq hk
          rw [e, if_neg (by omega)] at le
          exact ref _ (by omega) (by omega) le
        have nx : lineQ (Km μ) p j = false → V_X5_isLine R 47 [(0, kR 145), (1, kI p), (4, kI (nbK (Km μ p))), (5, kI (p + 1 + j + 1))] μ := fun hq => by
          have h := ihj (fun k k0 k1 => by
            by_cases e : k = j
            · rw [e]; exact hq
            · exact hk k k0 (by omega))
          rw [← Int.add_assoc] at h
          exact h
        refine vc_X5_isLine_47 ?_
        unfold F_X5_kindAt
        refine ⟨rr (by omega), rr (by omega), fun c => absurd c (by omega), fun _ => ⟨pk _ (by omega) (by omega), rr (by omega), rr (by omega), fun c => ⟨rr (by omega), fun c4 => nx ?_, fun c4 => bad ?_⟩, fun c => ⟨rr (by omega), fun c4 => nx ?_, fun c4 => bad ?_⟩⟩⟩
        · unfold lineQ; rw [if_neg (by omega), decide_eq_true c4]; rfl
        · unfold lineQ; rw [if_neg (by omega), decide_eq_false c4]; rfl
        · unfold lineQ; rw [if_pos (by omega), decide_eq_true c4]; rfl
        · unfold lineQ; rw [if_pos (by omega), decide_eq_false c4]; rfl
      · intro hk
        rw [frst_none (by omega) hk, if_pos (by omega)] at le
        exact vc_X5_isLine_47 ⟨rr (by omega), rr (by omega), fun _ => good (by omega), fun c => absurd (show p + nbK (Km μ p) + 1 < p + 1 + (nbK (Km μ p) + 1) by omega) c⟩
    have := pi 0 (Int.le_refl _) (by omega) (fun k k0 k1 => absurd k0 (by omega))
    rw [Int.add_zero] at this
    exact this
  refine vc_X5_isLine_0 ?_
  unfold F_X5_kindAt F_X5_numbersBehind P_X5_numbersBehind
  have rk : r32 (Km μ p) := rr (by omega)
  have rn : r32 (nbK (Km μ p)) := rr (by omega)
  refine ⟨pk p (by omega) (by omega), rr (by omega), rk, fun c => ⟨rr (by omega), fun c2 => ref0 (Or.inl ⟨by omega, c⟩), fun c2 => ⟨rn, fun c3 => inner (by omega), fun c3 => ref0 (Or.inr (Or.inr (by omega)))⟩⟩, fun c => ⟨rr (by omega), fun c2 => ref0 (Or.inr (Or.inl ⟨by omega, by omega⟩)), fun c2 => ⟨rn, fun c3 => inner (by omega), fun c3 => ref0 (Or.inr (Or.inr (by omega)))⟩⟩⟩
theorem ct_X5_isLine : Ct mX5_isLine 1 22 0 0 (nrmS S_X5_isLine) := by
  refine ct_vm (own := RX5) (by decide +kernel) rfl ?_ ?_
  · intro as μ Q hS
    unfold S_X5_isLine at hS
    split at hS
    · exact Nat.le_of_ble_eq_true rfl
    · exact hS.elim
  · intro as μ R hS
    unfold S_X5_isLine at hS
    split at hS
    · exact body_X5_isLine hS.1 hS.2
    · exact hS.elim
def P_X5_isText (o : Int) (μ : Mem) : Prop := o = 145 ∧ TkB μ
def Q_X5_isText (_ : Int) (μ μ' : Mem) (r : Int) : Prop := (gramN (Km μ) 502 0 < 0 → r = 1 ∧ μ' = μ) ∧ (0 ≤ gramN (Km μ) 502 0 → r = 0 ∧ μ' = updm (updm μ 145 4 1) 145 5 (Sm μ (gramN (Km μ) 502 0)))
def S_X5_isText : S0t := fun as μ Q => match as with
  | [(2, x0)] => P_X5_isText x0 μ ∧ ∀ (μ' : Mem) (r : Int), Q_X5_isText x0 μ μ' r → Q μ' (some (kI r))
  | _ => False
theorem mono_X5_isText : Mono S_X5_isText := by
  intro as μ Q Q' h hS
  unfold S_X5_isText at hS ⊢
  split at hS
  · exact ⟨hS.1, fun μ' r q => h _ _ (hS.2 _ _ q)⟩
  · exact hS.elim
def iX5_isText : Inf := (kX5_isText, fTX5, pTX5, cTX5, lTX5, sTX5, [(100, 0, 2, 5, S_X5_isLine), (104, 0, 1, 5, S_X5_kindAt), (108, 1, 1, 0, S_X5_numbersBehind)])
theorem ok_X5_isText : infOK iX5_isText mX5_isText RX5 2 47 := ⟨kkX5_isText, fTX5_ok, pTX5_ok _, cTX5_ok, lTX5_ok, sTX5_ok, c_cons ⟨mX5_isLine, 1, 22, ct_X5_isLine, mmX5_isLine, vvX5_isLine, lkX5_100, ⟨by decide, by decide⟩, ⟨_, _, rfl⟩, by decide, mono_X5_isLine⟩ (c_cons ⟨mX5_kindAt, 0, 0, ct_X5_kindAt, mmX5_kindAt, vvX5_kindAt, lkX5_104, ⟨by decide, by decide⟩, ⟨_, _, rfl⟩, by decide, mono_X5_kindAt⟩ (c_cons ⟨mX5_numbersBehind, 0, 0, ct_X5_numbersBehind, mmX5_numbersBehind, stX5_numbersBehind, lkX5_108, ⟨by decide, by decide⟩, mono_X5_numbersBehind⟩ (c_nil)))⟩
theorem mt_X5_isText : mtOK [] RX5 2 47 := mt_nil
abbrev V_X5_isText (R : Mem → Option AV → Prop) (pc : Nat) (lc : List (Nat × AV)) (μ : Mem) : Prop := VM mX5_isText RX5 2 47 R pc lc [] μ
set_option maxRecDepth 20000 in
theorem vc_X5_isText_0 {R : Mem → Option AV → Prop} {μ : Mem} (H : P_X5_isLine 145 0 1 μ ∧ (∀ (μ1 : Mem) (rv2 : Int), Q_X5_isLine 145 0 1 μ μ1 rv2 → r32 rv2 ∧ ((¬ rv2 = 0) → V_X5_isText R 15 [(0, kR 145), (1, kI 3), (2, kI 0)] μ1) ∧ (¬ (¬ rv2 = 0) → R μ1 (some (kI 0))))) : V_X5_isText R 0 [(0, kR 145)] μ := by
  refine vm_step2 mt_X5_isText ok_X5_isText [(15, [0, 1, 2])] 1000 ?_
  show isC 145 5 ∧ P_X5_isLine 145 0 1 μ ∧ (∀ (μ1 : Mem) (rv2 : Int), Q_X5_isLine 145 0 1 μ μ1 rv2 → r32 rv2 ∧ ((¬ rv2 = 0) → V_X5_isText R 15 [(0, kR 145), (1, kI 3), (2, kI 0)] μ1) ∧ (¬ (¬ rv2 = 0) → (0 ≤ (0 : Int) ∧ (0 : Int) ≤ 1) ∧ R μ1 (some (kI 0))))
  exact ⟨c_145, H.1, fun μ1 rv2 hq3 => ⟨(H.2 μ1 rv2 hq3).1, fun hc4 => ((H.2 μ1 rv2 hq3).2.1 hc4), fun hc4 => ⟨⟨by omega, by omega⟩, ((H.2 μ1 rv2 hq3).2.2 hc4)⟩⟩⟩
set_option maxRecDepth 20000 in
theorem vc_X5_isText_15 {R : Mem → Option AV → Prop} {p ln : Int} {μ : Mem} (H : r32 ln ∧ r32 (μ 145 3) ∧ (((μ 145 3) ≤ ln) → R μ (some (kI 1))) ∧ (¬ ((μ 145 3) ≤ ln) → P_X5_kindAt 145 p μ ∧ r32 (F_X5_kindAt 145 p μ) ∧ (((F_X5_kindAt 145 p μ) = 0) → R μ (some (kI 1))) ∧ (¬ ((F_X5_kindAt 145 p μ) = 0) → P_X5_isLine 145 p 0 μ ∧ (∀ (μ5 : Mem) (rv6 : Int), Q_X5_isLine 145 p 0 μ μ5 rv6 → r32 rv6 ∧ ((¬ rv6 = 0) → P_X5_kindAt 145 p μ5 ∧ P_X5_numbersBehind (F_X5_kindAt 145 p μ5) μ5 ∧ V_X5_isText R 15 [(0, kR 145), (1, kI (p + (2 + (F_X5_numbersBehind (F_X5_kindAt 145 p μ5) μ5)))), (2, kI (ln + 1))] μ5) ∧ (¬ (¬ rv6 = 0) → R μ5 (some (kI 0))))))) : V_X5_isText R 15 [(0, kR 145), (1, kI p), (2, kI ln)] μ := by
  refine vm_step2 mt_X5_isText ok_X5_isText [(15, [0, 1, 2])] 1000 ?_
  show isC 145 5 ∧ (r32 ln ∧ r32 (μ 145 3)) ∧ (((μ 145 3) ≤ ln) → (0 ≤ (1 : Int) ∧ (1 : Int) ≤ 1) ∧ R μ (some (kI 1))) ∧ (¬ ((μ 145 3) ≤ ln) → isC 145 5 ∧ P_X5_kindAt 145 p μ ∧ r32 (F_X5_kindAt 145 p μ) ∧ (((F_X5_kindAt 145 p μ) = 0) → (0 ≤ (1 : Int) ∧ (1 : Int) ≤ 1) ∧ R μ (some (kI 1))) ∧ (¬ ((F_X5_kindAt 145 p μ) = 0) → isC 145 5 ∧ P_X5_isLine 145 p 0 μ ∧ (∀ (μ5 : Mem) (rv6 : Int), Q_X5_isLine 145 p 0 μ μ5 rv6 → r32 rv6 ∧ ((¬ rv6 = 0) → isC 145 5 ∧ P_X5_kindAt 145 p μ5 ∧ P_X5_numbersBehind (F_X5_kindAt 145 p μ5) μ5 ∧ V_X5_isText R 15 [(0, kR 145), (1, kI (p + (2 + (F_X5_numbersBehind (F_X5_kindAt 145 p μ5) μ5)))), (2, kI (ln + 1))] μ5) ∧ (¬ (¬ rv6 = 0) → (0 ≤ (0 : Int) ∧ (0 : Int) ≤ 1) ∧ R μ5 (some (kI 0))))))
  exact ⟨c_145, ⟨⟨H.1, H.2.1⟩, fun hc10 => ⟨⟨by omega, by omega⟩, (H.2.2.1 hc10)⟩, fun hc10 => ⟨c_145, (H.2.2.2 hc10).1, ⟨(H.2.2.2 hc10).2.1, fun hc9 => ⟨⟨by omega, by omega⟩, ((H.2.2.2 hc10).2.2.1 hc9)⟩, fun hc9 => ⟨c_145, ((H.2.2.2 hc10).2.2.2 hc9).1, fun μ5 rv6 hq7 => ⟨(((H.2.2.2 hc10).2.2.2 hc9).2 μ5 rv6 hq7).1, fun hc8 => ⟨c_145, ((((H.2.2.2 hc10).2.2.2 hc9).2 μ5 rv6 hq7).2.1 hc8).1, ⟨((((H.2.2.2 hc10).2.2.2 hc9).2 μ5 rv6 hq7).2.1 hc8).2.1, ((((H.2.2.2 hc10).2.2.2 hc9).2 μ5 rv6 hq7).2.1 hc8).2.2⟩⟩, fun hc8 => ⟨⟨by omega, by omega⟩, ((((H.2.2.2 hc10).2.2.2 hc9).2 μ5 rv6 hq7).2.2 hc8)⟩⟩⟩⟩⟩⟩⟩
theorem body_X5_isText {o : Int} {μ : Mem} {R : Mem → Option AV → Prop} (h : P_X5_isText o μ) (hR : ∀ (μ' : Mem) (r : Int), Q_X5_isText o μ μ' r → R μ' (some (kI r))) : V_X5_isText R 0 [(0, kR o)] μ := by
  obtain ⟨rfl, hb⟩ := h
  have ht := hb.1
  unfold Q_X5_isText at hR
  have kb := fun (i : Int) => (Km_bd hb i).1
  have good : gramN (Km μ) 502 0 < 0 → R μ (some (kI 1)) := fun c => hR μ 1 ⟨fun _ => ⟨rfl, rfl⟩, fun q => by omega⟩
  have pk : ∀ i : Int, -10 ≤ i → i ≤ 2000 → P_X5_kindAt 145 i μ := fun i i0 i1 => ⟨rfl, rr (by omega), by omega⟩
  have bad : ∀ q : Int, 0 ≤ q → gramN (Km μ) 502 0 = q → ∀ m : Mem, m = updm (updm μ 145 4 1) 145 5 (Sm μ q) → R m (some (kI 0)) := fun q q0 hq m hm => hR m 0 ⟨fun c => by omega, fun _ => ⟨rfl, by rw [hm, hq]⟩⟩
  have loop : ∀ f : Nat, ∀ p ln : Int, 3 ≤ p → p ≤ 600 → 0 ≤ ln → ln + 3 ≤ p → 502 ≤ p + f → gramN (Km μ) 502 0 = gramN (Km μ) f p → V_X5_isText R 15 [(0, kR 145), (1, kI p), (2, kI ln)] μ := by
    intro f
    induction f with
    | zero =>
      intro p ln p3 p6 l0 l1 hp he
      have g : gramN (Km μ) 502 0 < 0 := by rw [he]; show (-1 : Int) < 0; decide
      have hk : Km μ p = 0 := by unfold Km; rw [if_neg (by omega)]
      refine vc_X5_isText_15 ?_
      unfold F_X5_kindAt
      exact ⟨rr (by omega), rr (by omega), fun _ => good g, fun _ => ⟨pk p (by omega) (by omega), rr (by omega), fun _ => good g, fun c => absurd hk c⟩⟩
    | succ f ih =>
      intro p ln p3 p6 l0 l1 hp he
      have hg : gramN (Km μ) (f + 1) p = if 0 < p ∧ Km μ p = 0 then -1 else if 0 ≤ lineE (Km μ) p then lineE (Km μ) p else gramN (Km μ) f (p + 2 + nbK (Km μ p)) := rfl
      rw [hg] at he
      have kp := kb p
      have nb := nbK_bd (k := Km μ p)
      refine vc_X5_isText_15 ?_
      have ek : F_X5_kindAt 145 p μ = Km μ p := rfl
      rw [ek]
      by_cases hk : Km μ p = 0
      · rw [if_pos ⟨by omega, hk⟩] at he
        exact ⟨rr (by omega), rr (by omega), fun _ => good (by omega), fun _ => ⟨pk p (by omega) (by omega), rr (by omega), fun _ => good (by omega), fun c => absurd hk c⟩⟩
      · rw [if_neg (fun q => hk q.2)] at he
        have hpt : p < μ 145 3 := Classical.byContradiction fun q => hk (by unfold Km; rw [if_neg (by omega)])
        refine ⟨rr (by omega), rr (by omega), fun c => absurd c (by omega), fun _ => ⟨pk p (by omega) (by omega), rr (by omega), fun c => absurd c hk, fun _ => ⟨⟨rfl, hb, by omega, Or.inr ⟨by omega, rfl⟩⟩, fun m5 r6 q6 => ?_⟩⟩⟩
        by_cases c1 : 0 ≤ lineE (Km μ) p
        · rw [if_pos c1] at he
          obtain ⟨e1, e2⟩ := q6.2 c1
          subst e1
          exact ⟨rr (by omega), fun c => absurd rfl c, fun _ => bad _ c1 he m5 e2⟩
        · rw [if_neg c1] at he
          obtain ⟨e1, e2⟩ := q6.1 (by omega)
          subst e1
          subst e2
          rw [ek]
          refine ⟨rr (by omega), fun _ => ⟨pk p (by omega) (by omega), rr (by omega), ?_⟩, fun c => absurd (show ¬ (1 : Int) = 0 by omega) c⟩
          unfold F_X5_numbersBehind
          have e : p + (2 + nbK (Km m5 p)) = p + 2 + nbK (Km m5 p) := by omega
          rw [e]
          exact ih _ _ (by omega) (by omega) (by omega) (by omega) (by omega) he
  refine vc_X5_isText_0 ⟨⟨rfl, hb, by omega, Or.inl ⟨rfl, rfl⟩⟩, fun m1 r2 q2 => ?_⟩
  have he : gramN (Km μ) 502 0 = if (0 : Int) < 0 ∧ Km μ 0 = 0 then -1 else if 0 ≤ lineE (Km μ) 0 then lineE (Km μ) 0 else gramN (Km μ) 501 (0 + 2 + nbK (Km μ 0)) := rfl
  rw [if_neg (by omega)] at he
  by_cases c1 : 0 ≤ lineE (Km μ) 0
  · rw [if_pos c1] at he
    obtain ⟨e1, e2⟩ := q2.2 c1
    subst e1
    exact ⟨rr (by omega), fun c => absurd rfl c, fun _ => bad _ c1 he m1 e2⟩
  · rw [if_neg c1] at he
    have k3 : Km μ 0 = 3 := Classical.byContradiction fun q => c1 (by unfold lineE; rw [if_pos (Or.inl ⟨rfl, q⟩)]; exact Int.le_refl 0)
    have n1 : nbK (Km μ 0) = 1 := by rw [k3]; rfl
    rw [n1] at he
    obtain ⟨e1, e2⟩ := q2.1 (by omega)
    subst e1
    subst e2
    exact ⟨rr (by omega), fun _ => loop 501 3 0 (by omega) (by omega) (by omega) (by omega) (by omega) he, fun c => absurd (show ¬ (1 : Int) = 0 by omega) c⟩
theorem ct_X5_isText : Ct mX5_isText 2 47 0 0 (nrmS S_X5_isText) := by
  refine ct_vm (own := RX5) (by decide +kernel) rfl ?_ ?_
  · intro as μ Q hS
    unfold S_X5_isText at hS
    split at hS
    · exact Nat.le_of_ble_eq_true rfl
    · exact hS.elim
  · intro as μ R hS
    unfold S_X5_isText at hS
    split at hS
    · exact body_X5_isText hS.1 hS.2
    · exact hS.elim
