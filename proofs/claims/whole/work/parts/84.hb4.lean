theorem frst_cg {q q' : Int → Bool} {n : Int} (h : ∀ i, 0 ≤ i → i < n → q i = q' i) : frst q n = frst q' n := fold_congr fun y i i0 i1 => by rw [h i i0 i1]
/-- both by chances can be told -/
def canG (v : TV) : Prop := 1 ≤ popc (awayV v) ∧ popc (awayV v) ≤ 4
noncomputable def gameV (v : TV) : GV := gv (wayV v) (awayV v)
noncomputable def shareG (v : TV) (p : Int) : Int := if frst (fun i => decide (mthV (awayV v) ((gameV v).2.2.2.1 i) = p)) (gameV v).1 < 0 then 0 else (gameV v).2.2.2.2.2.1 (frst (fun i => decide (mthV (awayV v) ((gameV v).2.2.2.1 i) = p)) (gameV v).1)
theorem game_P {c t : Int} {μ : Mem} (hc : CI c μ) (hr : TR μ t) (ht : 4 ≤ t ∧ t ≤ 24) : P_X0_settle 156 (t + 2) (awayV (tv μ t)) μ := by
  obtain ⟨Mk, _, _, _, _, _, g1, _, _, _⟩ := hc
  exact settle_P (by unfold isG; decide) (T_ways hr.1.1) (by omega) (away_bd hr.1.2) (gw_way hr.1.2 hr.2.2.1 (s := awayV (tv μ t)) (fun _ _ _ h => h)) (same_way hr (s := awayV (tv μ t)) (fun _ _ _ h => h)) g1
theorem game_ask {t z s r : Int} {μ m : Mem} (h : Q_X0_settle 156 z s μ m r) : Ask μ m := by
  obtain ⟨hf, hg, _, _⟩ := h
  refine ⟨fun c hc => ?_, fun z hz => hf z (by omega)⟩
  have hc2 := hc
  obtain ⟨Mk, _, _, _, _, _, g1, g2, _, _⟩ := hc2
  exact CI_keep hc (fun z hz => hf z (by omega)) hg (GInv_frame g2 (fun z z0 z1 => hf z (by omega))) (fun Mk _ q => NC_frame q (hf 0 (by omega)) (hf 186 (by omega)) (hf 192 (by omega))) (fun Mk _ q => OC_frame q (hf 0 (by omega)) (hf 178 (by omega)))
/-- what stands in the game then -/
theorem game_Q {t r : Int} {μ m : Mem} (hr : TR μ t) (h : Q_X0_settle 156 (t + 2) (awayV (tv μ t)) μ m r) : (¬ canG (tv μ t) → r = 0) ∧ (canG (tv μ t) → r = 1 ∧ gameV (tv μ t) = (m 156 14, m 156 15, m 156 16, clip (m 156 14) (m 160), clip (m 156 14) (m 161), clip (m 156 14) (m 165), clip (m 156 14) (m 166)) ∧ (1 ≤ m 156 14 ∧ m 156 14 ≤ 4) ∧ (∀ i : Int, 0 ≤ i → i < m 156 14 → (0 ≤ m 160 i ∧ m 160 i < popc (awayV (tv μ t))) ∧ (0 ≤ m 161 i ∧ m 161 i < 24)) ∧ ∀ j : Int, 0 ≤ j → j < popc (awayV (tv μ t)) → m 157 j = mthV (awayV (tv μ t)) j) := by
  refine ⟨fun c => h.2.2.1 c, fun c => ?_⟩
  have gw := gw_way hr.1.2 hr.2.2.1 (s := awayV (tv μ t)) (fun _ _ _ h => h)
  have he := same_way hr (s := awayV (tv μ t)) (fun _ _ _ h => h)
  obtain ⟨s1, s2, s3⟩ := settle_Q c gw he h
  have h24 := sv0_bd (show 0 ≤ popc (awayV (tv μ t)) by have := c.1; omega) c.2
  obtain ⟨h1, h2, h3, F, hk, hf⟩ := h.2.2.2 c
  rcases hk with ⟨h0, _⟩ | ⟨hk1, _⟩
  · omega
  · refine ⟨s1, s3, by have := hk1.1; have := c.2; omega, fun i i0 i1 => ⟨?_, ?_⟩, h3⟩
    · have := Pk_at hk1.2.1 (by have := hk1.1; have := c.2; omega) i0 i1
      exact ⟨this.1, this.2.1⟩
    · have := Pk_at hk1.2.2.1 (by have := hk1.1; have := c.2; omega) i0 i1
      have e : m (156 + 5) i = m 161 i := rfl
      omega
noncomputable def bothT (k : Int) (v : TV) : Int := @ite _ (canG v) (Classical.propDecidable _) (if k = 0 then (gameV v).2.1 else if k = 1 then (gameV v).2.2.1 else if k = 2 then (gameV v).1 else if 10 ≤ k ∧ k < 10 + v 0 0 then shareG v (k - 10) else -1000000000000) (-1000000000000)
def P_X10_both (o n k : Int) (μ : Mem) : Prop := o = 0 ∧ (∃ c, CI c μ) ∧ r32 n ∧ r32 k
def Q_X10_both (_ n k : Int) (μ μ' : Mem) (r : Int) : Prop := Ask μ μ' ∧ r = onT (wvC μ 1) n (-1000000000000) (bothT k)
def S_X10_both : S0t := fun as μ Q => match as with
  | [(2, x0), (0, x1), (0, x2)] => P_X10_both x0 x1 x2 μ ∧ ∀ (μ' : Mem) (r : Int), Q_X10_both x0 x1 x2 μ μ' r → Q μ' (some (kL r))
  | _ => False
theorem mono_X10_both : Mono S_X10_both := by
  intro as μ Q Q' h hS
  unfold S_X10_both at hS ⊢
  split at hS
  · exact ⟨hS.1, fun μ' r q => h _ _ (hS.2 _ _ q)⟩
  · exact hS.elim
def iX10_both : Inf := (kX10_both, fTX10, pTX10, cTX10, lTX10, sTX10, [(110, 0, 1, 9, S_X9_townAt), (185, 0, 0, 7, S_X7_cellarsAway), (217, 0, 2, 0, S_X0_settle), (236, 0, 1, 0, S_X0_shareOf)])
theorem ok_X10_both : infOK iX10_both mX10_both RX10 4 108 := ⟨kkX10_both, fTX10_ok, pTX10_ok _, cTX10_ok, lTX10_ok, sTX10_ok, c_cons ⟨mX9_townAt, 0, 0, ct_X9_townAt, mmX9_townAt, vvX9_townAt, lkX10_110, ⟨by decide, by decide⟩, ⟨_, _, rfl⟩, by decide, mono_X9_townAt⟩ (c_cons ⟨mX7_cellarsAway, 0, 0, ct_X7_cellarsAway, mmX7_cellarsAway, vvX7_cellarsAway, lkX10_185, ⟨by decide, by decide⟩, ⟨_, _, rfl⟩, by decide, mono_X7_cellarsAway⟩ (c_cons ⟨mX0_settle, 3, 83, ct_X0_settle, mmX0_settle, vvX0_settle, lkX10_217, ⟨by decide, by decide⟩, ⟨_, _, rfl⟩, by decide, mono_X0_settle⟩ (c_cons ⟨mX0_shareOf, 0, 0, ct_X0_shareOf, mmX0_shareOf, vvX0_shareOf, lkX10_236, ⟨by decide, by decide⟩, ⟨_, _, rfl⟩, by decide, mono_X0_shareOf⟩ (c_nil))))⟩
theorem mt_X10_both : mtOK [] RX10 4 108 := mt_nil
abbrev V_X10_both (R : Mem → Option AV → Prop) (pc : Nat) (lc : List (Nat × AV)) (μ : Mem) : Prop := VM mX10_both RX10 4 108 R pc lc [] μ
set_option maxRecDepth 20000 in
theorem vc_X10_both_0 {R : Mem → Option AV → Prop} {n k : Int} {μ : Mem} (H : P_X9_townAt 1 n μ ∧ (∀ (rv2 : Int), Q_X9_townAt 1 n μ rv2 → (rv2 < 0 → R μ (some (kL (-1000000000000)))) ∧ (¬ rv2 < 0 → P_X7_cellarsAway rv2 μ ∧ P_X0_settle 156 (rv2 + 2) (F_X7_cellarsAway rv2 μ) μ ∧ (∀ (μ4 : Mem) (rv5 : Int), Q_X0_settle 156 (rv2 + 2) (F_X7_cellarsAway rv2 μ) μ μ4 rv5 → r32 rv5 ∧ ((¬ rv5 = 0) → r32 k ∧ (k < 0 ∨ 2 < k → r32 k ∧ ((k < (10 : Int)) → R μ4 (some (kL (-1000000000000)))) ∧ (¬ (k < (10 : Int)) → r32 k ∧ r32 (10 + (μ4 rv2 1)) ∧ (((10 + (μ4 rv2 1)) ≤ k) → R μ4 (some (kL (-1000000000000)))) ∧ (¬ ((10 + (μ4 rv2 1)) ≤ k) → P_X0_shareOf 156 (k - 10) μ4 ∧ R μ4 (some (kL (F_X0_shareOf 156 (k - 10) μ4)))))) ∧ (k = 0 → R μ4 (some (kL (μ4 156 15)))) ∧ (k = 1 → R μ4 (some (kL (μ4 156 16)))) ∧ (k = 2 → r32 (μ4 156 14) ∧ R μ4 (some (kL (μ4 156 14))))) ∧ (¬ (¬ rv5 = 0) → R μ4 (some (kL (-1000000000000)))))))) : V_X10_both R 0 [(0, kR 0), (1, kI n), (2, kI k)] μ := by
  refine vm_step2 mt_X10_both ok_X10_both [] 1000 ?_
  show isC 0 10 ∧ isC 1 9 ∧ P_X9_townAt 1 n μ ∧ (∀ (rv2 : Int), Q_X9_townAt 1 n μ rv2 → (rv2 < 0 → R μ (some (kL (-1000000000000)))) ∧ (¬ rv2 < 0 → isC 0 10 ∧ isC rv2 7 ∧ isC rv2 7 ∧ P_X7_cellarsAway rv2 μ ∧ isC 156 0 ∧ P_X0_settle 156 (rv2 + 2) (F_X7_cellarsAway rv2 μ) μ ∧ (∀ (μ4 : Mem) (rv5 : Int), Q_X0_settle 156 (rv2 + 2) (F_X7_cellarsAway rv2 μ) μ μ4 rv5 → r32 rv5 ∧ ((¬ rv5 = 0) → r32 k ∧ (k < 0 ∨ 2 < k → (r32 k ∧ r32 (10 : Int)) ∧ ((k < (10 : Int)) → R μ4 (some (kL (-1000000000000)))) ∧ (¬ (k < (10 : Int)) → isC rv2 7 ∧ (r32 k ∧ r32 (10 + (μ4 rv2 1))) ∧ (((10 + (μ4 rv2 1)) ≤ k) → R μ4 (some (kL (-1000000000000)))) ∧ (¬ ((10 + (μ4 rv2 1)) ≤ k) → isC 0 10 ∧ isC 156 0 ∧ P_X0_shareOf 156 (k - 10) μ4 ∧ R μ4 (some (kL (F_X0_shareOf 156 (k - 10) μ4)))))) ∧ (k = 0 → isC 0 10 ∧ isC 156 0 ∧ R μ4 (some (kL (μ4 156 15)))) ∧ (k = 1 → isC 0 10 ∧ isC 156 0 ∧ R μ4 (some (kL (μ4 156 16)))) ∧ (k = 2 → isC 0 10 ∧ isC 156 0 ∧ r32 (μ4 156 14) ∧ R μ4 (some (kL (μ4 156 14)))) ∧ True) ∧ (¬ (¬ rv5 = 0) → R μ4 (some (kL (-1000000000000)))))))
  exact ⟨c_0, ⟨c_1, H.1, fun rv2 hq3 => ⟨fun hz11 => ((H.2 rv2 hq3).1 hz11), fun hz11 => have h_rv2 := hq3.2.2 hz11; ⟨c_0, ⟨isT_C h_rv2, ⟨isT_C h_rv2, ((H.2 rv2 hq3).2 hz11).1, ⟨c_156, ((H.2 rv2 hq3).2 hz11).2.1, fun μ4 rv5 hq6 => ⟨(((H.2 rv2 hq3).2 hz11).2.2 μ4 rv5 hq6).1, fun hc10 => ⟨((((H.2 rv2 hq3).2 hz11).2.2 μ4 rv5 hq6).2.1 hc10).1, fun hc9 => ⟨⟨(((((H.2 rv2 hq3).2 hz11).2.2 μ4 rv5 hq6).2.1 hc10).2.1 hc9).1, by unfold r32; omega⟩, fun hc8 => ((((((H.2 rv2 hq3).2 hz11).2.2 μ4 rv5 hq6).2.1 hc10).2.1 hc9).2.1 hc8), fun hc8 => ⟨isT_C h_rv2, ⟨⟨((((((H.2 rv2 hq3).2 hz11).2.2 μ4 rv5 hq6).2.1 hc10).2.1 hc9).2.2 hc8).1, ((((((H.2 rv2 hq3).2 hz11).2.2 μ4 rv5 hq6).2.1 hc10).2.1 hc9).2.2 hc8).2.1⟩, fun hc7 => (((((((H.2 rv2 hq3).2 hz11).2.2 μ4 rv5 hq6).2.1 hc10).2.1 hc9).2.2 hc8).2.2.1 hc7), fun hc7 => ⟨c_0, ⟨c_156, (((((((H.2 rv2 hq3).2 hz11).2.2 μ4 rv5 hq6).2.1 hc10).2.1 hc9).2.2 hc8).2.2.2 hc7).1, (((((((H.2 rv2 hq3).2 hz11).2.2 μ4 rv5 hq6).2.1 hc10).2.1 hc9).2.2 hc8).2.2.2 hc7).2⟩⟩⟩⟩⟩, fun hc9 => ⟨c_0, ⟨c_156, (((((H.2 rv2 hq3).2 hz11).2.2 μ4 rv5 hq6).2.1 hc10).2.2.1 hc9)⟩⟩, fun hc9 => ⟨c_0, ⟨c_156, (((((H.2 rv2 hq3).2 hz11).2.2 μ4 rv5 hq6).2.1 hc10).2.2.2.1 hc9)⟩⟩, fun hc9 => ⟨c_0, ⟨c_156, ⟨(((((H.2 rv2 hq3).2 hz11).2.2 μ4 rv5 hq6).2.1 hc10).2.2.2.2 hc9).1, (((((H.2 rv2 hq3).2 hz11).2.2 μ4 rv5 hq6).2.1 hc10).2.2.2.2 hc9).2⟩⟩⟩, trivial⟩, fun hc10 => ((((H.2 rv2 hq3).2 hz11).2.2 μ4 rv5 hq6).2.2 hc10)⟩⟩⟩⟩⟩⟩⟩⟩
theorem body_X10_both {o n k : Int} {μ : Mem} {R : Mem → Option AV → Prop} (h : P_X10_both o n k μ) (hR : ∀ (μ' : Mem) (r : Int), Q_X10_both o n k μ μ' r → R μ' (some (kL r))) : V_X10_both R 0 [(0, kR o), (1, kI n), (2, kI k)] μ := by
  obtain ⟨rfl, ⟨c, hc⟩, r_n, r_k⟩ := h
  obtain ⟨pt, ht⟩ := ask_town hc r_n
  have fin : ∀ (m : Mem) (x : Int), Ask μ m → x = onT (wvC μ 1) n (-1000000000000) (bothT k) → R m (some (kL x)) := fun m x ha hx => hR m x ⟨ha, hx⟩
  refine vc_X10_both_0 ⟨pt, fun t q => ?_⟩
  rcases ht t q with ⟨hneg, hno⟩ | ⟨hpos, hr, hl, hm, ht4, hy⟩
  · exact ⟨fun _ => fin μ _ (Ask_0 μ) (hno _ _).symm, fun q => absurd hneg q⟩
  · have hT := hr.1.1
    have ok := hr.1.2
    have hj := hr.2.2.1
    have hp : 2 ≤ μ t 1 ∧ μ t 1 ≤ 8 := ok.1
    have hpe : tv μ t 0 0 = μ t 1 := rfl
    have hle : tv μ t 1 0 = μ t 2 := rfl
    have a0 := Ask_0 μ
    rw [hy] at fin
    unfold bothT at fin
    refine ⟨fun q => absurd q hpos, fun _ => ?_⟩
    have ha := TR_away hr
    rw [ha.1]
    refine ⟨ha.2, game_P hc hr ht4, fun m4 r5 q4 => ?_⟩
    have hA := game_ask (t := t) q4
    have gq := game_Q hr q4
    by_cases cg : canG (tv μ t)
    · obtain ⟨g1, g2, g3, g4, g5⟩ := gq.2 cg
      subst g1
      rw [if_pos cg] at fin
      have e1 : m4 t 1 = μ t 1 := by rw [q4.1 t (by omega)]
      rw [e1]
      have v0 : (gameV (tv μ t)).1 = m4 156 14 := by rw [g2]
      have v1 : (gameV (tv μ t)).2.1 = m4 156 15 := by rw [g2]
      have v2 : (gameV (tv μ t)).2.2.1 = m4 156 16 := by rw [g2]
      have v3 : (gameV (tv μ t)).2.2.2.1 = clip (m4 156 14) (m4 160) := by rw [g2]
      have v5 : (gameV (tv μ t)).2.2.2.2.2.1 = clip (m4 156 14) (m4 165) := by rw [g2]
      refine ⟨rr (by omega), fun _ => ⟨r_k, fun c1 => ⟨r_k, fun c2 => fin m4 _ hA ?_, fun c2 => ⟨r_k, rr (by omega), fun c3 => fin m4 _ hA ?_, fun c3 => ?_⟩⟩, fun c1 => fin m4 _ hA ?_, fun c1 => fin m4 _ hA ?_, fun c1 => ⟨rr (by omega), fin m4 _ hA ?_⟩⟩, fun q => absurd (show ¬ (1 : Int) = 0 by omega) q⟩
      · rw [if_neg (by omega), if_neg (by omega), if_neg (by omega), if_neg (by omega)]
      · rw [if_neg (by omega), if_neg (by omega), if_neg (by omega), if_neg (by rw [hpe]; omega)]
      · have cel : ∀ i : Int, 0 ≤ i → i < m4 156 14 → m4 157 (m4 160 i) = mthV (awayV (tv μ t)) (m4 160 i) := fun i i0 i1 => g5 _ (g4 i i0 i1).1.1 (g4 i i0 i1).1.2
        refine ⟨⟨by unfold isG; decide, by have := r_k; unfold r32 at this ⊢; omega, by omega, fun i i0 i1 => by have := (g4 i i0 i1).1; have := cg.2; show 0 ≤ m4 160 i ∧ m4 160 i < 4; omega, fun i i0 i1 => ?_⟩, fin m4 _ hA ?_⟩
        · show r32 (m4 157 (m4 160 i))
          rw [cel i i0 i1]
          have := mth_in (s := awayV (tv μ t)) (g4 i i0 i1).1.1 (g4 i i0 i1).1.2
          exact rr (by omega)
        · rw [if_neg (by omega), if_neg (by omega), if_neg (by omega), if_pos (by rw [hpe]; omega)]
          unfold F_X0_shareOf shareG
          have ef : frst (fun i => decide (m4 (156 + 1) (m4 (156 + 4) i) = k - 10)) (m4 156 14) = frst (fun i => decide (mthV (awayV (tv μ t)) ((gameV (tv μ t)).2.2.2.1 i) = k - 10)) (gameV (tv μ t)).1 := by
            rw [v0, v3]
            refine frst_cg fun i i0 i1 => ?_
            have e9 : m4 (156 + 1) (m4 (156 + 4) i) = mthV (awayV (tv μ t)) (clip (m4 156 14) (m4 160) i) := by
              rw [clip_in i0 i1]; exact cel i i0 i1
            show decide (m4 (156 + 1) (m4 (156 + 4) i) = k - 10) = decide (mthV (awayV (tv μ t)) (clip (m4 156 14) (m4 160) i) = k - 10)
            rw [e9]
          rw [ef]
          by_cases cf : frst (fun i => decide (mthV (awayV (tv μ t)) ((gameV (tv μ t)).2.2.2.1 i) = k - 10)) (gameV (tv μ t)).1 < 0
          · rw [if_pos cf, if_pos cf]
          · rw [if_neg cf, if_neg cf, v5]
            rcases frst_cases (fun i => decide (mthV (awayV (tv μ t)) ((gameV (tv μ t)).2.2.2.1 i) = k - 10)) (show 0 ≤ (gameV (tv μ t)).1 by omega) with ⟨e, _⟩ | ⟨j, j0, j1, e, _⟩
            · rw [e] at cf; omega
            · rw [e, clip_in j0 (by omega)]; rfl
      · rw [if_pos c1, v1]
      · rw [if_neg (by omega), if_pos c1, v2]
      · rw [if_neg (by omega), if_neg (by omega), if_pos c1, v0]
    · have g1 := gq.1 cg
      subst g1
      exact ⟨rr (by omega), fun q => absurd rfl q, fun _ => fin m4 _ hA (if_neg cg).symm⟩
theorem ct_X10_both : Ct mX10_both 4 108 0 0 (nrmS S_X10_both) := by
  refine ct_vm (own := RX10) (by decide +kernel) rfl ?_ ?_
  · intro as μ Q hS
    unfold S_X10_both at hS
    split at hS
    · exact Nat.le_of_ble_eq_true rfl
    · exact hS.elim
  · intro as μ R hS
    unfold S_X10_both at hS
    split at hS
    · exact body_X10_both hS.1 hS.2
    · exact hS.elim
noncomputable def goesT (a k : Int) (v : TV) : Int := @ite _ (canG v ∧ (0 ≤ k ∧ k ≤ 1) ∧ 0 ≤ a ∧ a < (gameV v).1) (Classical.propDecidable _) (if k = 0 then (gameV v).2.2.2.2.1 a else (gameV v).2.2.2.2.2.2 a) (-1000000000000)
def P_X10_goes (o n a k : Int) (μ : Mem) : Prop := o = 0 ∧ (∃ c, CI c μ) ∧ r32 n ∧ r32 a ∧ r32 k
def Q_X10_goes (_ n a k : Int) (μ μ' : Mem) (r : Int) : Prop := Ask μ μ' ∧ r = onT (wvC μ 1) n (-1000000000000) (goesT a k)
def S_X10_goes : S0t := fun as μ Q => match as with
  | [(2, x0), (0, x1), (0, x2), (0, x3)] => P_X10_goes x0 x1 x2 x3 μ ∧ ∀ (μ' : Mem) (r : Int), Q_X10_goes x0 x1 x2 x3 μ μ' r → Q μ' (some (kL r))
  | _ => False
theorem mono_X10_goes : Mono S_X10_goes := by
  intro as μ Q Q' h hS
  unfold S_X10_goes at hS ⊢
  split at hS
  · exact ⟨hS.1, fun μ' r q => h _ _ (hS.2 _ _ q)⟩
  · exact hS.elim
def iX10_goes : Inf := (kX10_goes, fTX10, pTX10, cTX10, lTX10, sTX10, [(110, 0, 1, 9, S_X9_townAt), (185, 0, 0, 7, S_X7_cellarsAway), (217, 0, 2, 0, S_X0_settle)])
theorem ok_X10_goes : infOK iX10_goes mX10_goes RX10 4 108 := ⟨kkX10_goes, fTX10_ok, pTX10_ok _, cTX10_ok, lTX10_ok, sTX10_ok, c_cons ⟨mX9_townAt, 0, 0, ct_X9_townAt, mmX9_townAt, vvX9_townAt, lkX10_110, ⟨by decide, by decide⟩, ⟨_, _, rfl⟩, by decide, mono_X9_townAt⟩ (c_cons ⟨mX7_cellarsAway, 0, 0, ct_X7_cellarsAway, mmX7_cellarsAway, vvX7_cellarsAway, lkX10_185, ⟨by decide, by decide⟩, ⟨_, _, rfl⟩, by decide, mono_X7_cellarsAway⟩ (c_cons ⟨mX0_settle, 3, 83, ct_X0_settle, mmX0_settle, vvX0_settle, lkX10_217, ⟨by decide, by decide⟩, ⟨_, _, rfl⟩, by decide, mono_X0_settle⟩ (c_nil)))⟩
theorem mt_X10_goes : mtOK [] RX10 4 108 := mt_nil
abbrev V_X10_goes (R : Mem → Option AV → Prop) (pc : Nat) (lc : List (Nat × AV)) (μ : Mem) : Prop := VM mX10_goes RX10 4 108 R pc lc [] μ
set_option maxRecDepth 20000 in
theorem vc_X10_goes_0 {R : Mem → Option AV → Prop} {n a k : Int} {μ : Mem} (H : P_X9_townAt 1 n μ ∧ (∀ (rv2 : Int), Q_X9_townAt 1 n μ rv2 → (rv2 < 0 → R μ (some (kL (-1000000000000)))) ∧ (¬ rv2 < 0 → r32 k ∧ ((k < 0) → R μ (some (kL (-1000000000000)))) ∧ (¬ (k < 0) → r32 k ∧ (((1 : Int) < k) → R μ (some (kL (-1000000000000)))) ∧ (¬ ((1 : Int) < k) → P_X7_cellarsAway rv2 μ ∧ P_X0_settle 156 (rv2 + 2) (F_X7_cellarsAway rv2 μ) μ ∧ (∀ (μ4 : Mem) (rv5 : Int), Q_X0_settle 156 (rv2 + 2) (F_X7_cellarsAway rv2 μ) μ μ4 rv5 → r32 rv5 ∧ ((¬ rv5 = 0) → r32 a ∧ ((a < 0) → R μ4 (some (kL (-1000000000000)))) ∧ (¬ (a < 0) → r32 a ∧ r32 (μ4 156 14) ∧ ((a < (μ4 156 14)) → r32 k ∧ ((¬ k = 0) → (0 ≤ a ∧ a < 4) ∧ R μ4 (some (kL (μ4 166 a)))) ∧ (¬ (¬ k = 0) → (0 ≤ a ∧ a < 4) ∧ r32 (μ4 161 a) ∧ R μ4 (some (kL (μ4 161 a))))) ∧ (¬ (a < (μ4 156 14)) → R μ4 (some (kL (-1000000000000)))))) ∧ (¬ (¬ rv5 = 0) → R μ4 (some (kL (-1000000000000)))))))))) : V_X10_goes R 0 [(0, kR 0), (1, kI n), (2, kI a), (3, kI k)] μ := by
  refine vm_step2 mt_X10_goes ok_X10_goes [] 1000 ?_
  show isC 0 10 ∧ isC 1 9 ∧ P_X9_townAt 1 n μ ∧ (∀ (rv2 : Int), Q_X9_townAt 1 n μ rv2 → (rv2 < 0 → R μ (some (kL (-1000000000000)))) ∧ (¬ rv2 < 0 → r32 k ∧ ((k < 0) → R μ (some (kL (-1000000000000)))) ∧ (¬ (k < 0) → (r32 k ∧ r32 (1 : Int)) ∧ (((1 : Int) < k) → R μ (some (kL (-1000000000000)))) ∧ (¬ ((1 : Int) < k) → isC 0 10 ∧ isC rv2 7 ∧ isC rv2 7 ∧ P_X7_cellarsAway rv2 μ ∧ isC 156 0 ∧ P_X0_settle 156 (rv2 + 2) (F_X7_cellarsAway rv2 μ) μ ∧ (∀ (μ4 : Mem) (rv5 : Int), Q_X0_settle 156 (rv2 + 2) (F_X7_cellarsAway rv2 μ) μ μ4 rv5 → r32 rv5 ∧ ((¬ rv5 = 0) → r32 a ∧ ((a < 0) → R μ4 (some (kL (-1000000000000)))) ∧ (¬ (a < 0) → isC 0 10 ∧ isC 156 0 ∧ (r32 a ∧ r32 (μ4 156 14)) ∧ ((a < (μ4 156 14)) → r32 k ∧ ((¬ k = 0) → isC 0 10 ∧ isC 156 0 ∧ inA 166 1 a ∧ R μ4 (some (kL (μ4 166 a)))) ∧ (¬ (¬ k = 0) → isC 0 10 ∧ isC 156 0 ∧ inA 161 0 a ∧ r32 (μ4 161 a) ∧ R μ4 (some (kL (μ4 161 a))))) ∧ (¬ (a < (μ4 156 14)) → R μ4 (some (kL (-1000000000000)))))) ∧ (¬ (¬ rv5 = 0) → R μ4 (some (kL (-1000000000000)))))))))
  exact ⟨c_0, ⟨c_1, H.1, fun rv2 hq3 => ⟨fun hz13 => ((H.2 rv2 hq3).1 hz13), fun hz13 => have h_rv2 := hq3.2.2 hz13; ⟨((H.2 rv2 hq3).2 hz13).1, fun hc12 => (((H.2 rv2 hq3).2 hz13).2.1 hc12), fun hc12 => ⟨⟨(((H.2 rv2 hq3).2 hz13).2.2 hc12).1, by unfold r32; omega⟩, fun hc11 => ((((H.2 rv2 hq3).2 hz13).2.2 hc12).2.1 hc11), fun hc11 => ⟨c_0, ⟨isT_C h_rv2, ⟨isT_C h_rv2, ((((H.2 rv2 hq3).2 hz13).2.2 hc12).2.2 hc11).1, ⟨c_156, ((((H.2 rv2 hq3).2 hz13).2.2 hc12).2.2 hc11).2.1, fun μ4 rv5 hq6 => ⟨(((((H.2 rv2 hq3).2 hz13).2.2 hc12).2.2 hc11).2.2 μ4 rv5 hq6).1, fun hc10 => ⟨((((((H.2 rv2 hq3).2 hz13).2.2 hc12).2.2 hc11).2.2 μ4 rv5 hq6).2.1 hc10).1, fun hc9 => (((((((H.2 rv2 hq3).2 hz13).2.2 hc12).2.2 hc11).2.2 μ4 rv5 hq6).2.1 hc10).2.1 hc9), fun hc9 => ⟨c_0, ⟨c_156, ⟨⟨(((((((H.2 rv2 hq3).2 hz13).2.2 hc12).2.2 hc11).2.2 μ4 rv5 hq6).2.1 hc10).2.2 hc9).1, (((((((H.2 rv2 hq3).2 hz13).2.2 hc12).2.2 hc11).2.2 μ4 rv5 hq6).2.1 hc10).2.2 hc9).2.1⟩, fun hc8 => ⟨((((((((H.2 rv2 hq3).2 hz13).2.2 hc12).2.2 hc11).2.2 μ4 rv5 hq6).2.1 hc10).2.2 hc9).2.2.1 hc8).1, fun hc7 => ⟨c_0, ⟨c_156, ⟨isArr.in a_166 (((((((((H.2 rv2 hq3).2 hz13).2.2 hc12).2.2 hc11).2.2 μ4 rv5 hq6).2.1 hc10).2.2 hc9).2.2.1 hc8).2.1 hc7).1.1 (((((((((H.2 rv2 hq3).2 hz13).2.2 hc12).2.2 hc11).2.2 μ4 rv5 hq6).2.1 hc10).2.2 hc9).2.2.1 hc8).2.1 hc7).1.2, (((((((((H.2 rv2 hq3).2 hz13).2.2 hc12).2.2 hc11).2.2 μ4 rv5 hq6).2.1 hc10).2.2 hc9).2.2.1 hc8).2.1 hc7).2⟩⟩⟩, fun hc7 => ⟨c_0, ⟨c_156, ⟨isArr.in a_161 (((((((((H.2 rv2 hq3).2 hz13).2.2 hc12).2.2 hc11).2.2 μ4 rv5 hq6).2.1 hc10).2.2 hc9).2.2.1 hc8).2.2 hc7).1.1 (((((((((H.2 rv2 hq3).2 hz13).2.2 hc12).2.2 hc11).2.2 μ4 rv5 hq6).2.1 hc10).2.2 hc9).2.2.1 hc8).2.2 hc7).1.2, ⟨(((((((((H.2 rv2 hq3).2 hz13).2.2 hc12).2.2 hc11).2.2 μ4 rv5 hq6).2.1 hc10).2.2 hc9).2.2.1 hc8).2.2 hc7).2.1, (((((((((H.2 rv2 hq3).2 hz13).2.2 hc12).2.2 hc11).2.2 μ4 rv5 hq6).2.1 hc10).2.2 hc9).2.2.1 hc8).2.2 hc7).2.2⟩⟩⟩⟩⟩, fun hc8 => ((((((((H.2 rv2 hq3).2 hz13).2.2 hc12).2.2 hc11).2.2 μ4 rv5 hq6).2.1 hc10).2.2 hc9).2.2.2 hc8)⟩⟩⟩⟩, fun hc10 => ((((((H.2 rv2 hq3).2 hz13).2.2 hc12).2.2 hc11).2.2 μ4 rv5 hq6).2.2 hc10)⟩⟩⟩⟩⟩⟩⟩⟩⟩⟩
theorem body_X10_goes {o n a k : Int} {μ : Mem} {R : Mem → Option AV → Prop} (h : P_X10_goes o n a k μ) (hR : ∀ (μ' : Mem) (r : Int), Q_X10_goes o n a k μ μ' r → R μ' (some (kL r))) : V_X10_goes R 0 [(0, kR o), (1, kI n), (2, kI a), (3, kI k)] μ := by
  obtain ⟨rfl, ⟨c, hc⟩, r_n, r_a, r_k⟩ := h
  obtain ⟨pt, ht⟩ := ask_town hc r_n
  have fin : ∀ (m : Mem) (x : Int), Ask μ m → x = onT (wvC μ 1) n (-1000000000000) (goesT a k) → R m (some (kL x)) := fun m x ha hx => hR m x ⟨ha, hx⟩
  refine vc_X10_goes_0 ⟨pt, fun t q => ?_⟩
  rcases ht t q with ⟨hneg, hno⟩ | ⟨hpos, hr, hl, hm, ht4, hy⟩
  · exact ⟨fun _ => fin μ _ (Ask_0 μ) (hno _ _).symm, fun q => absurd hneg q⟩
  · have hT := hr.1.1
    have ok := hr.1.2
    have hj := hr.2.2.1
    have hp : 2 ≤ μ t 1 ∧ μ t 1 ≤ 8 := ok.1
    have hpe : tv μ t 0 0 = μ t 1 := rfl
    have hle : tv μ t 1 0 = μ t 2 := rfl
    have a0 := Ask_0 μ
    rw [hy] at fin
    unfold goesT at fin
    refine ⟨fun q => absurd q hpos, fun _ => ?_⟩
    have ha := TR_away hr
    rw [ha.1]
    refine ⟨r_k, fun c1 => fin μ _ a0 ?_, fun c1 => ⟨r_k, fun c2 => fin μ _ a0 ?_, fun c2 => ⟨ha.2, game_P hc hr ht4, fun m4 r5 q4 => ?_⟩⟩⟩
    · rw [if_neg (fun q => by have := q.2.1; omega)]
    · rw [if_neg (fun q => by have := q.2.1; omega)]
    have hA := game_ask (t := t) q4
    have gq := game_Q hr q4
    by_cases cg : canG (tv μ t)
    · obtain ⟨g1, g2, g3, g4, g5⟩ := gq.2 cg
      subst g1
      have v0 : (gameV (tv μ t)).1 = m4 156 14 := by rw [g2]
      have v4 : (gameV (tv μ t)).2.2.2.2.1 = clip (m4 156 14) (m4 161) := by rw [g2]
      have v6 : (gameV (tv μ t)).2.2.2.2.2.2 = clip (m4 156 14) (m4 166) := by rw [g2]
      refine ⟨rr (by omega), fun _ => ⟨r_a, fun c3 => fin m4 _ hA ?_, fun c3 => ⟨r_a, rr (by omega), fun c4 => ⟨r_k, fun c5 => ⟨by omega, fin m4 _ hA ?_⟩, fun c5 => ⟨by omega, by have := (g4 a (by omega) c4).2; exact rr (by omega), fin m4 _ hA ?_⟩⟩, fun c4 => fin m4 _ hA ?_⟩⟩, fun q => absurd (show ¬ (1 : Int) = 0 by omega) q⟩
      · rw [if_neg (fun q => by have := q.2.2; omega)]
      · rw [if_pos ⟨cg, by omega, by omega⟩, if_neg c5, v6, clip_in (by omega) c4]
      · rw [if_pos ⟨cg, by omega, by omega⟩, if_pos (Classical.byContradiction c5), v4, clip_in (by omega) c4]
      · rw [if_neg (fun q => by have := q.2.2; omega)]
    · have g1 := gq.1 cg
      subst g1
      exact ⟨rr (by omega), fun q => absurd rfl q, fun _ => fin m4 _ hA (if_neg (fun q => cg q.1)).symm⟩
theorem ct_X10_goes : Ct mX10_goes 4 108 0 0 (nrmS S_X10_goes) := by
  refine ct_vm (own := RX10) (by decide +kernel) rfl ?_ ?_
  · intro as μ Q hS
    unfold S_X10_goes at hS
    split at hS
    · exact Nat.le_of_ble_eq_true rfl
    · exact hS.elim
  · intro as μ R hS
    unfold S_X10_goes at hS
    split at hS
    · exact body_X10_goes hS.1 hS.2
    · exact hS.elim
noncomputable def guardT (k : Int) (v : TV) : Int := @ite _ (canG v ∧ 0 ≤ k ∧ k ≤ 2) (Classical.propDecidable _) (if k = 0 then (shutV v (v 0 0)).2 else if k = 1 then (shutV v (v 0 0)).1.1 else (shutV v (v 0 0)).1.2) (-1000000000000)
def P_X10_guard (o n k : Int) (μ : Mem) : Prop := o = 0 ∧ (∃ c, CI c μ) ∧ r32 n ∧ r32 k
def Q_X10_guard (_ n k : Int) (μ μ' : Mem) (r : Int) : Prop := Ask μ μ' ∧ r = onT (wvC μ 1) n (-1000000000000) (guardT k)
def S_X10_guard : S0t := fun as μ Q => match as with
  | [(2, x0), (0, x1), (0, x2)] => P_X10_guard x0 x1 x2 μ ∧ ∀ (μ' : Mem) (r : Int), Q_X10_guard x0 x1 x2 μ μ' r → Q μ' (some (kL r))
  | _ => False
theorem mono_X10_guard : Mono S_X10_guard := by
  intro as μ Q Q' h hS
  unfold S_X10_guard at hS ⊢
  split at hS
  · exact ⟨hS.1, fun μ' r q => h _ _ (hS.2 _ _ q)⟩
  · exact hS.elim
def iX10_guard : Inf := (kX10_guard, fTX10, pTX10, cTX10, lTX10, sTX10, [(110, 0, 1, 9, S_X9_townAt), (247, 0, 2, 3, S_X3_shutOne)])
theorem ok_X10_guard : infOK iX10_guard mX10_guard RX10 5 138 := ⟨kkX10_guard, fTX10_ok, pTX10_ok _, cTX10_ok, lTX10_ok, sTX10_ok, c_cons ⟨mX9_townAt, 0, 0, ct_X9_townAt, mmX9_townAt, vvX9_townAt, lkX10_110, ⟨by decide, by decide⟩, ⟨_, _, rfl⟩, by decide, mono_X9_townAt⟩ (c_cons ⟨mX3_shutOne, 4, 108, ct_X3_shutOne, mmX3_shutOne, vvX3_shutOne, lkX10_247, ⟨by decide, by decide⟩, ⟨_, _, rfl⟩, by decide, mono_X3_shutOne⟩ (c_nil))⟩
theorem mt_X10_guard : mtOK [] RX10 5 138 := mt_nil
abbrev V_X10_guard (R : Mem → Option AV → Prop) (pc : Nat) (lc : List (Nat × AV)) (μ : Mem) : Prop := VM mX10_guard RX10 5 138 R pc lc [] μ
set_option maxRecDepth 20000 in
theorem vc_X10_guard_0 {R : Mem → Option AV → Prop} {n k : Int} {μ : Mem} (H : P_X9_townAt 1 n μ ∧ (∀ (rv2 : Int), Q_X9_townAt 1 n μ rv2 → (rv2 < 0 → R μ (some (kL (-1000000000000)))) ∧ (¬ rv2 < 0 → r32 k ∧ ((k < 0) → R μ (some (kL (-1000000000000)))) ∧ (¬ (k < 0) → r32 k ∧ (((2 : Int) < k) → R μ (some (kL (-1000000000000)))) ∧ (¬ ((2 : Int) < k) → P_X3_shutOne 178 rv2 167 μ ∧ (∀ (μ4 : Mem) (rv5 : Int), Q_X3_shutOne 178 rv2 167 μ μ4 rv5 → r32 rv5 ∧ ((¬ rv5 = 0) → r32 k ∧ ((¬ k = 0) → r32 k ∧ ((¬ k = (1 : Int)) → R μ4 (some (kL (μ4 178 3)))) ∧ (¬ (¬ k = (1 : Int)) → R μ4 (some (kL (μ4 178 2))))) ∧ (¬ (¬ k = 0) → r32 (μ4 178 1) ∧ R μ4 (some (kL (μ4 178 1))))) ∧ (¬ (¬ rv5 = 0) → R μ4 (some (kL (-1000000000000)))))))))) : V_X10_guard R 0 [(0, kR 0), (1, kI n), (2, kI k)] μ := by
  refine vm_step2 mt_X10_guard ok_X10_guard [] 1000 ?_
  show isC 0 10 ∧ isC 1 9 ∧ P_X9_townAt 1 n μ ∧ (∀ (rv2 : Int), Q_X9_townAt 1 n μ rv2 → (rv2 < 0 → R μ (some (kL (-1000000000000)))) ∧ (¬ rv2 < 0 → r32 k ∧ ((k < 0) → R μ (some (kL (-1000000000000)))) ∧ (¬ (k < 0) → (r32 k ∧ r32 (2 : Int)) ∧ (((2 : Int) < k) → R μ (some (kL (-1000000000000)))) ∧ (¬ ((2 : Int) < k) → isC 0 10 ∧ isC 0 10 ∧ isC 178 3 ∧ P_X3_shutOne 178 rv2 167 μ ∧ (∀ (μ4 : Mem) (rv5 : Int), Q_X3_shutOne 178 rv2 167 μ μ4 rv5 → r32 rv5 ∧ ((¬ rv5 = 0) → r32 k ∧ ((¬ k = 0) → (r32 k ∧ r32 (1 : Int)) ∧ ((¬ k = (1 : Int)) → isC 0 10 ∧ isC 178 3 ∧ R μ4 (some (kL (μ4 178 3)))) ∧ (¬ (¬ k = (1 : Int)) → isC 0 10 ∧ isC 178 3 ∧ R μ4 (some (kL (μ4 178 2))))) ∧ (¬ (¬ k = 0) → isC 0 10 ∧ isC 178 3 ∧ r32 (μ4 178 1) ∧ R μ4 (some (kL (μ4 178 1))))) ∧ (¬ (¬ rv5 = 0) → R μ4 (some (kL (-1000000000000)))))))))
  exact ⟨c_0, ⟨c_1, H.1, fun rv2 hq3 => ⟨fun hz12 => ((H.2 rv2 hq3).1 hz12), fun hz12 => have h_rv2 := hq3.2.2 hz12; ⟨((H.2 rv2 hq3).2 hz12).1, fun hc11 => (((H.2 rv2 hq3).2 hz12).2.1 hc11), fun hc11 => ⟨⟨(((H.2 rv2 hq3).2 hz12).2.2 hc11).1, by unfold r32; omega⟩, fun hc10 => ((((H.2 rv2 hq3).2 hz12).2.2 hc11).2.1 hc10), fun hc10 => ⟨c_0, ⟨c_0, ⟨c_178, ((((H.2 rv2 hq3).2 hz12).2.2 hc11).2.2 hc10).1, fun μ4 rv5 hq6 => ⟨(((((H.2 rv2 hq3).2 hz12).2.2 hc11).2.2 hc10).2 μ4 rv5 hq6).1, fun hc9 => ⟨((((((H.2 rv2 hq3).2 hz12).2.2 hc11).2.2 hc10).2 μ4 rv5 hq6).2.1 hc9).1, fun hc8 => ⟨⟨(((((((H.2 rv2 hq3).2 hz12).2.2 hc11).2.2 hc10).2 μ4 rv5 hq6).2.1 hc9).2.1 hc8).1, by unfold r32; omega⟩, fun hc7 => ⟨c_0, ⟨c_178, ((((((((H.2 rv2 hq3).2 hz12).2.2 hc11).2.2 hc10).2 μ4 rv5 hq6).2.1 hc9).2.1 hc8).2.1 hc7)⟩⟩, fun hc7 => ⟨c_0, ⟨c_178, ((((((((H.2 rv2 hq3).2 hz12).2.2 hc11).2.2 hc10).2 μ4 rv5 hq6).2.1 hc9).2.1 hc8).2.2 hc7)⟩⟩⟩, fun hc8 => ⟨c_0, ⟨c_178, ⟨(((((((H.2 rv2 hq3).2 hz12).2.2 hc11).2.2 hc10).2 μ4 rv5 hq6).2.1 hc9).2.2 hc8).1, (((((((H.2 rv2 hq3).2 hz12).2.2 hc11).2.2 hc10).2 μ4 rv5 hq6).2.1 hc9).2.2 hc8).2⟩⟩⟩⟩, fun hc9 => ((((((H.2 rv2 hq3).2 hz12).2.2 hc11).2.2 hc10).2 μ4 rv5 hq6).2.2 hc9)⟩⟩⟩⟩⟩⟩⟩⟩⟩
theorem body_X10_guard {o n k : Int} {μ : Mem} {R : Mem → Option AV → Prop} (h : P_X10_guard o n k μ) (hR : ∀ (μ' : Mem) (r : Int), Q_X10_guard o n k μ μ' r → R μ' (some (kL r))) : V_X10_guard R 0 [(0, kR o), (1, kI n), (2, kI k)] μ := by
  obtain ⟨rfl, ⟨c, hc⟩, r_n, r_k⟩ := h
  obtain ⟨pt, ht⟩ := ask_town hc r_n
  have fin : ∀ (m : Mem) (x : Int), Ask μ m → x = onT (wvC μ 1) n (-1000000000000) (guardT k) → R m (some (kL x)) := fun m x ha hx => hR m x ⟨ha, hx⟩
  refine vc_X10_guard_0 ⟨pt, fun t q => ?_⟩
  rcases ht t q with ⟨hneg, hno⟩ | ⟨hpos, hr, hl, hm, ht4, hy⟩
  · exact ⟨fun _ => fin μ _ (Ask_0 μ) (hno _ _).symm, fun q => absurd hneg q⟩
  · have hT := hr.1.1
    have ok := hr.1.2
    have hj := hr.2.2.1
    have hp : 2 ≤ μ t 1 ∧ μ t 1 ≤ 8 := ok.1
    have hpe : tv μ t 0 0 = μ t 1 := rfl
    have hle : tv μ t 1 0 = μ t 2 := rfl
    have a0 := Ask_0 μ
    rw [hy] at fin
    unfold guardT at fin
    refine ⟨fun q => absurd q hpos, fun _ => ?_⟩
    have gi : GInv μ 167 := by
      obtain ⟨Mk, _, _, _, _, _, _, g2, _, _⟩ := hc
      exact g2
    refine ⟨r_k, fun c1 => fin μ _ a0 ?_, fun c1 => ⟨r_k, fun c2 => fin μ _ a0 ?_, fun c2 => ⟨⟨rfl, rfl, hr, gi⟩, fun m4 r5 q4 => ?_⟩⟩⟩
    · rw [if_neg (fun q => by have := q.2; omega)]
    · rw [if_neg (fun q => by have := q.2; omega)]
    have hA : Ask μ m4 := by
      obtain ⟨hf, hg, hff, _, _⟩ := q4
      refine ⟨fun c hc => ?_, fun z hz => hf z (by omega)⟩
      have hc2 := hc
      obtain ⟨Mk, _, _, _, _, _, g1, g2, _, _⟩ := hc2
      refine CI_keep hc (fun z hz => hf z (by omega)) (GInv_frame g1 (fun z z0 z1 => hf z (by omega))) hg (fun Mk _ q => NC_frame q (hf 0 (by omega)) (hf 186 (by omega)) (hf 192 (by omega))) (fun Mk _ q => ?_)
      unfold OC OpR at *
      rw [hf 0 (by omega), hff 4 (by omega), hff 5 (by omega), hff 6 (by omega), hff 7 (by omega), hff 8 (by omega), hff 9 (by omega)]
      exact q
    obtain ⟨hf, hg, hff, hno, hyes⟩ := q4
    by_cases cg : canG (tv μ t)
    · obtain ⟨h5, hs⟩ := hyes cg
      subst h5
      rw [if_pos ⟨cg, by omega, by omega⟩] at fin
      -- some cellar is shut
      have hM : 0 ≤ (shutV (tv μ t) (tv μ t 0 0)).2 ∧ (shutV (tv μ t) (tv μ t 0 0)).2 < 8 := by
        rcases mnR_cases (q := hasB (awayV (tv μ t))) (f := shF (tv μ t)) (n := tv μ t 0 0) (by omega) with ⟨_, hq⟩ | ⟨j, hj2, e, _⟩
        · exfalso
          have m0 := mth_in (s := awayV (tv μ t)) (m := 0) (Int.le_refl _) (by have := cg.1; omega)
          have := hq _ m0.1.1 (away_in ok _ m0.1.1 m0.1.2 m0.2)
          rw [m0.2] at this; cases this
        · unfold shutV
          rw [e]
          exact ⟨hj2.1, by have := hj2.2; show j < 8; omega⟩
      have h3 := hs.2 hM.1
      rw [h3.1, h3.2.1, h3.2.2]
      refine ⟨rr (by omega), fun _ => ⟨r_k, fun c3 => ⟨r_k, fun c4 => fin m4 _ hA ?_, fun c4 => fin m4 _ hA ?_⟩, fun c3 => ⟨rr (by omega), fin m4 _ hA ?_⟩⟩, fun q => absurd (show ¬ (1 : Int) = 0 by omega) q⟩
      · rw [if_neg c3, if_neg c4]
      · rw [if_neg c3, if_pos (Classical.byContradiction c4)]
      · rw [if_pos (Classical.byContradiction c3)]
    · have h5 := hno cg
      subst h5
      exact ⟨rr (by omega), fun q => absurd rfl q, fun _ => fin m4 _ hA (if_neg (fun q => cg q.1)).symm⟩
theorem ct_X10_guard : Ct mX10_guard 5 138 0 0 (nrmS S_X10_guard) := by
  refine ct_vm (own := RX10) (by decide +kernel) rfl ?_ ?_
  · intro as μ Q hS
    unfold S_X10_guard at hS
    split at hS
    · exact Nat.le_of_ble_eq_true rfl
    · exact hS.elim
  · intro as μ R hS
    unfold S_X10_guard at hS
    split at hS
    · exact body_X10_guard hS.1 hS.2
    · exact hS.elim
noncomputable def openT (a k : Int) (v : TV) : Int := @ite _ (canG v ∧ (1 ≤ a ∧ a ≤ 20) ∧ (0 ≤ k ∧ k ≤ 3) ∧ 0 ≤ (openV v a (8 * v 0 0)).2) (Classical.propDecidable _) (if k = 0 then (openV v a (8 * v 0 0)).2 / 8 else if k = 1 then (openV v a (8 * v 0 0)).2 % 8 else if k = 2 then (openV v a (8 * v 0 0)).1.1 else (openV v a (8 * v 0 0)).1.2) (-1000000000000)
def P_X10_open (o n a k : Int) (μ : Mem) : Prop := o = 0 ∧ (∃ c, CI c μ) ∧ r32 n ∧ r32 a ∧ r32 k
def Q_X10_open (_ n a k : Int) (μ μ' : Mem) (r : Int) : Prop := Ask μ μ' ∧ r = onT (wvC μ 1) n (-1000000000000) (openT a k)
def S_X10_open : S0t := fun as μ Q => match as with
  | [(2, x0), (0, x1), (0, x2), (0, x3)] => P_X10_open x0 x1 x2 x3 μ ∧ ∀ (μ' : Mem) (r : Int), Q_X10_open x0 x1 x2 x3 μ μ' r → Q μ' (some (kL r))
  | _ => False
theorem mono_X10_open : Mono S_X10_open := by
  intro as μ Q Q' h hS
  unfold S_X10_open at hS ⊢
  split at hS
  · exact ⟨hS.1, fun μ' r q => h _ _ (hS.2 _ _ q)⟩
  · exact hS.elim
def iX10_open : Inf := (kX10_open, fTX10, pTX10, cTX10, lTX10, sTX10, [(110, 0, 1, 9, S_X9_townAt), (260, 0, 4, 3, S_X3_addLane)])
theorem ok_X10_open : infOK iX10_open mX10_open RX10 6 160 := ⟨kkX10_open, fTX10_ok, pTX10_ok _, cTX10_ok, lTX10_ok, sTX10_ok, c_cons ⟨mX9_townAt, 0, 0, ct_X9_townAt, mmX9_townAt, vvX9_townAt, lkX10_110, ⟨by decide, by decide⟩, ⟨_, _, rfl⟩, by decide, mono_X9_townAt⟩ (c_cons ⟨mX3_addLane, 5, 134, ct_X3_addLane, mmX3_addLane, vvX3_addLane, lkX10_260, ⟨by decide, by decide⟩, ⟨_, _, rfl⟩, by decide, mono_X3_addLane⟩ (c_nil))⟩
theorem mt_X10_open : mtOK [] RX10 6 160 := mt_nil
abbrev V_X10_open (R : Mem → Option AV → Prop) (pc : Nat) (lc : List (Nat × AV)) (μ : Mem) : Prop := VM mX10_open RX10 6 160 R pc lc [] μ
set_option maxRecDepth 20000 in
theorem vc_X10_open_0 {R : Mem → Option AV → Prop} {n a k : Int} {μ : Mem} (H : P_X9_townAt 1 n μ ∧ (∀ (rv2 : Int), Q_X9_townAt 1 n μ rv2 → (rv2 < 0 → R μ (some (kL (-1000000000000)))) ∧ (¬ rv2 < 0 → r32 a ∧ ((a < (1 : Int)) → R μ (some (kL (-1000000000000)))) ∧ (¬ (a < (1 : Int)) → r32 a ∧ (((20 : Int) < a) → R μ (some (kL (-1000000000000)))) ∧ (¬ ((20 : Int) < a) → r32 k ∧ ((k < 0) → R μ (some (kL (-1000000000000)))) ∧ (¬ (k < 0) → r32 k ∧ ((k ≤ (3 : Int)) → P_X3_addLane 178 rv2 a 156 167 μ ∧ (∀ (μ4 : Mem) (rv5 : Int), Q_X3_addLane 178 rv2 a 156 167 μ μ4 rv5 → r32 rv5 ∧ ((¬ rv5 = 0) → r32 k ∧ (k < 0 ∨ 2 < k → R μ4 (some (kL (μ4 178 9)))) ∧ (k = 0 → r32 (μ4 178 6) ∧ R μ4 (some (kL (μ4 178 6)))) ∧ (k = 1 → r32 (μ4 178 7) ∧ R μ4 (some (kL (μ4 178 7)))) ∧ (k = 2 → R μ4 (some (kL (μ4 178 8))))) ∧ (¬ (¬ rv5 = 0) → R μ4 (some (kL (-1000000000000)))))) ∧ (¬ (k ≤ (3 : Int)) → R μ (some (kL (-1000000000000)))))))))) : V_X10_open R 0 [(0, kR 0), (1, kI n), (2, kI a), (3, kI k)] μ := by
  refine vm_step2 mt_X10_open ok_X10_open [] 1000 ?_
  show isC 0 10 ∧ isC 1 9 ∧ P_X9_townAt 1 n μ ∧ (∀ (rv2 : Int), Q_X9_townAt 1 n μ rv2 → (rv2 < 0 → R μ (some (kL (-1000000000000)))) ∧ (¬ rv2 < 0 → (r32 a ∧ r32 (1 : Int)) ∧ ((a < (1 : Int)) → R μ (some (kL (-1000000000000)))) ∧ (¬ (a < (1 : Int)) → (r32 a ∧ r32 (20 : Int)) ∧ (((20 : Int) < a) → R μ (some (kL (-1000000000000)))) ∧ (¬ ((20 : Int) < a) → r32 k ∧ ((k < 0) → R μ (some (kL (-1000000000000)))) ∧ (¬ (k < 0) → (r32 k ∧ r32 (3 : Int)) ∧ ((k ≤ (3 : Int)) → isC 0 10 ∧ isC 0 10 ∧ isC 0 10 ∧ isC 178 3 ∧ P_X3_addLane 178 rv2 a 156 167 μ ∧ (∀ (μ4 : Mem) (rv5 : Int), Q_X3_addLane 178 rv2 a 156 167 μ μ4 rv5 → r32 rv5 ∧ ((¬ rv5 = 0) → r32 k ∧ (k < 0 ∨ 2 < k → isC 0 10 ∧ isC 178 3 ∧ R μ4 (some (kL (μ4 178 9)))) ∧ (k = 0 → isC 0 10 ∧ isC 178 3 ∧ r32 (μ4 178 6) ∧ R μ4 (some (kL (μ4 178 6)))) ∧ (k = 1 → isC 0 10 ∧ isC 178 3 ∧ r32 (μ4 178 7) ∧ R μ4 (some (kL (μ4 178 7)))) ∧ (k = 2 → isC 0 10 ∧ isC 178 3 ∧ R μ4 (some (kL (μ4 178 8)))) ∧ True) ∧ (¬ (¬ rv5 = 0) → R μ4 (some (kL (-1000000000000)))))) ∧ (¬ (k ≤ (3 : Int)) → R μ (some (kL (-1000000000000)))))))))
  exact ⟨c_0, ⟨c_1, H.1, fun rv2 hq3 => ⟨fun hz13 => ((H.2 rv2 hq3).1 hz13), fun hz13 => have h_rv2 := hq3.2.2 hz13; ⟨⟨((H.2 rv2 hq3).2 hz13).1, by unfold r32; omega⟩, fun hc12 => (((H.2 rv2 hq3).2 hz13).2.1 hc12), fun hc12 => ⟨⟨(((H.2 rv2 hq3).2 hz13).2.2 hc12).1, by unfold r32; omega⟩, fun hc11 => ((((H.2 rv2 hq3).2 hz13).2.2 hc12).2.1 hc11), fun hc11 => ⟨((((H.2 rv2 hq3).2 hz13).2.2 hc12).2.2 hc11).1, fun hc10 => (((((H.2 rv2 hq3).2 hz13).2.2 hc12).2.2 hc11).2.1 hc10), fun hc10 => ⟨⟨(((((H.2 rv2 hq3).2 hz13).2.2 hc12).2.2 hc11).2.2 hc10).1, by unfold r32; omega⟩, fun hc9 => ⟨c_0, ⟨c_0, ⟨c_0, ⟨c_178, ((((((H.2 rv2 hq3).2 hz13).2.2 hc12).2.2 hc11).2.2 hc10).2.1 hc9).1, fun μ4 rv5 hq6 => ⟨(((((((H.2 rv2 hq3).2 hz13).2.2 hc12).2.2 hc11).2.2 hc10).2.1 hc9).2 μ4 rv5 hq6).1, fun hc8 => ⟨((((((((H.2 rv2 hq3).2 hz13).2.2 hc12).2.2 hc11).2.2 hc10).2.1 hc9).2 μ4 rv5 hq6).2.1 hc8).1, fun hc7 => ⟨c_0, ⟨c_178, (((((((((H.2 rv2 hq3).2 hz13).2.2 hc12).2.2 hc11).2.2 hc10).2.1 hc9).2 μ4 rv5 hq6).2.1 hc8).2.1 hc7)⟩⟩, fun hc7 => ⟨c_0, ⟨c_178, ⟨(((((((((H.2 rv2 hq3).2 hz13).2.2 hc12).2.2 hc11).2.2 hc10).2.1 hc9).2 μ4 rv5 hq6).2.1 hc8).2.2.1 hc7).1, (((((((((H.2 rv2 hq3).2 hz13).2.2 hc12).2.2 hc11).2.2 hc10).2.1 hc9).2 μ4 rv5 hq6).2.1 hc8).2.2.1 hc7).2⟩⟩⟩, fun hc7 => ⟨c_0, ⟨c_178, ⟨(((((((((H.2 rv2 hq3).2 hz13).2.2 hc12).2.2 hc11).2.2 hc10).2.1 hc9).2 μ4 rv5 hq6).2.1 hc8).2.2.2.1 hc7).1, (((((((((H.2 rv2 hq3).2 hz13).2.2 hc12).2.2 hc11).2.2 hc10).2.1 hc9).2 μ4 rv5 hq6).2.1 hc8).2.2.2.1 hc7).2⟩⟩⟩, fun hc7 => ⟨c_0, ⟨c_178, (((((((((H.2 rv2 hq3).2 hz13).2.2 hc12).2.2 hc11).2.2 hc10).2.1 hc9).2 μ4 rv5 hq6).2.1 hc8).2.2.2.2 hc7)⟩⟩, trivial⟩, fun hc8 => ((((((((H.2 rv2 hq3).2 hz13).2.2 hc12).2.2 hc11).2.2 hc10).2.1 hc9).2 μ4 rv5 hq6).2.2 hc8)⟩⟩⟩⟩⟩, fun hc9 => ((((((H.2 rv2 hq3).2 hz13).2.2 hc12).2.2 hc11).2.2 hc10).2.2 hc9)⟩⟩⟩⟩⟩⟩⟩
theorem body_X10_open {o n a k : Int} {μ : Mem} {R : Mem → Option AV → Prop} (h : P_X10_open o n a k μ) (hR : ∀ (μ' : Mem) (r : Int), Q_X10_open o n a k μ μ' r → R μ' (some (kL r))) : V_X10_open R 0 [(0, kR o), (1, kI n), (2, kI a), (3, kI k)] μ := by
  obtain ⟨rfl, ⟨c, hc⟩, r_n, r_a, r_k⟩ := h
  obtain ⟨pt, ht⟩ := ask_town hc r_n
  have fin : ∀ (m : Mem) (x : Int), Ask μ m → x = onT (wvC μ 1) n (-1000000000000) (openT a k) → R m (some (kL x)) := fun m x ha hx => hR m x ⟨ha, hx⟩
  refine vc_X10_open_0 ⟨pt, fun t q => ?_⟩
  rcases ht t q with ⟨hneg, hno⟩ | ⟨hpos, hr, hl, hm, ht4, hy⟩
  · exact ⟨fun _ => fin μ _ (Ask_0 μ) (hno _ _).symm, fun q => absurd hneg q⟩
  · have hT := hr.1.1
    have ok := hr.1.2
    have hj := hr.2.2.1
    have hp : 2 ≤ μ t 1 ∧ μ t 1 ≤ 8 := ok.1
    have hpe : tv μ t 0 0 = μ t 1 := rfl
    have hle : tv μ t 1 0 = μ t 2 := rfl
    have a0 := Ask_0 μ
    rw [hy] at fin
    unfold openT at fin
    refine ⟨fun q => absurd q hpos, fun _ => ?_⟩
    refine ⟨r_a, fun c1 => fin μ _ a0 ?_, fun c1 => ⟨r_a, fun c2 => fin μ _ a0 ?_, fun c2 => ⟨r_k, fun c3 => fin μ _ a0 ?_, fun c3 => ⟨r_k, fun c4 => ⟨?_, fun m4 r5 q4 => ?_⟩, fun c4 => fin μ _ a0 ?_⟩⟩⟩⟩
    · rw [if_neg (fun q => by have := q.2.1; omega)]
    · rw [if_neg (fun q => by have := q.2.1; omega)]
    · rw [if_neg (fun q => by have := q.2.2.1; omega)]
    · obtain ⟨Mk, hcc, hmm, hw, _, _, g1, g2, n1, o1⟩ := hc
      have tg := town_TG q hpos hw
      refine ⟨rfl, rfl, rfl, hr, by omega, g1, g2, ⟨rr (by have := tg.2.2.1; omega), rr (by have := o1.1; omega), rr (by have := o1.2.1; omega)⟩, fun e1 e2 => ?_⟩
      have h := o1.2.2 (by omega)
      rw [← e1, e2] at h
      rw [openV_same tg.2.2.2 a]
      exact h
    · have hA : Ask μ m4 := by
        obtain ⟨hf, hg1, hg2, hff, hno, hyes⟩ := q4
        refine ⟨fun c hc => CI_keep hc (fun z hz => hf z (by omega)) hg1 hg2 (fun Mk _ q => NC_frame q (hf 0 (by omega)) (hf 186 (by omega)) (hf 192 (by omega))) (fun Mk hw qo => ?_), fun z hz => hf z (by omega)⟩
        by_cases cg : canG (tv μ t)
        · obtain ⟨h5, ho, h4', h5'⟩ := hyes cg
          have tg := town_TG q hpos hw
          unfold OC
          rw [hf 0 (by omega), h4', h5', ← openV_same tg.2.2.2 a]
          exact ⟨by have := tg.2.2.1; omega, by omega, fun _ => ho⟩
        · have := (hno cg).2
          exact OC_frame qo (hf 0 (by omega)) this
      obtain ⟨hf, hg1, hg2, hff, hno, hyes⟩ := q4
      by_cases cg : canG (tv μ t)
      · obtain ⟨h5, ho, h4', h5'⟩ := hyes cg
        have ob := openV_bd (v := tv μ t) (k := a) (n := 8 * tv μ t 0 0) (by omega) (by omega)
        by_cases cm : (openV (tv μ t) a (8 * tv μ t 0 0)).2 < 0
        · rw [if_pos cm] at h5
          subst h5
          exact ⟨rr (by omega), fun q => absurd rfl q, fun _ => fin m4 _ hA (if_neg (fun q => by have := q.2.2.2; omega)).symm⟩
        · rw [if_neg cm] at h5
          subst h5
          have h3 := ho.2 (by omega)
          rw [if_pos ⟨cg, by omega, by omega, by omega⟩] at fin
          rw [h3.1, h3.2.1, h3.2.2.1, h3.2.2.2]
          refine ⟨rr (by omega), fun _ => ⟨r_k, fun c5 => fin m4 _ hA ?_, fun c5 => ⟨rr (by omega), fin m4 _ hA ?_⟩, fun c5 => ⟨rr (by omega), fin m4 _ hA ?_⟩, fun c5 => fin m4 _ hA ?_⟩, fun q => absurd (show ¬ (1 : Int) = 0 by omega) q⟩
          · rw [if_neg (by omega), if_neg (by omega), if_neg (by omega)]
          · rw [if_pos c5]
          · rw [if_neg (by omega), if_pos c5]
          · rw [if_neg (by omega), if_neg (by omega), if_pos c5]
      · have h5 := (hno cg).1
        subst h5
        exact ⟨rr (by omega), fun q => absurd rfl q, fun _ => fin m4 _ hA (if_neg (fun q => cg q.1)).symm⟩
    · rw [if_neg (fun q => by have := q.2.2.1; omega)]
theorem ct_X10_open : Ct mX10_open 6 160 0 0 (nrmS S_X10_open) := by
  refine ct_vm (own := RX10) (by decide +kernel) rfl ?_ ?_
  · intro as μ Q hS
    unfold S_X10_open at hS
    split at hS
    · exact Nat.le_of_ble_eq_true rfl
    · exact hS.elim
  · intro as μ R hS
    unfold S_X10_open at hS
    split at hS
    · exact body_X10_open hS.1 hS.2
    · exact hS.elim
