/-- those that are met: the cellars, and the start -/
def metB (v : TV) (a : Int) : Bool := decide (a = 0) || hasB (cellV v) a
theorem met_has {v : TV} (ok : TVok v) {a : Int} (a0 : 0 ≤ a) (a1 : a < 31) : (0 ≤ bor (cellV v) 1 ∧ bor (cellV v) 1 < 256) ∧ hasB (bor (cellV v) 1) a = metB v a := by
  have hc := cell_bd ok
  rw [b_or hc.1 (by omega) (by omega) (by omega)]
  have e1 : (1 : Int).toNat = 1 := rfl
  rw [e1]
  have hlt : (cellV v).toNat ||| 1 < 2 ^ 8 := Nat.or_lt_two_pow (by have : (2 : Nat) ^ 8 = 256 := rfl; omega) (by decide)
  have h8 : (2 : Nat) ^ 8 = 256 := rfl
  refine ⟨by omega, ?_⟩
  unfold metB hasB
  rw [Int.toNat_natCast, Nat.testBit_or, Bool.or_comm]
  congr 1
  rw [show (1 : Nat) = 2 ^ 0 from rfl, Nat.testBit_two_pow]
  by_cases q : a = 0
  · subst q; rfl
  · rw [decide_eq_false q, decide_eq_false (by omega)]
def shorterV (v : TV) (X : Int → Int → Int) : Bool := !(allV (fun a => allV (fun b => !(metB v a && metB v b && decide (X a b < wayV v a b))) (v 0 0)) (v 0 0))
def P_X3_isShorter (o t : Int) (μ : Mem) : Prop := o = 178 ∧ TR μ t ∧ ∀ a b : Int, 0 ≤ a → a < tv μ t 0 0 → 0 ≤ b → b < tv μ t 0 0 → r32 (μ 179 (a * 8 + b))
def F_X3_isShorter (_ t : Int) (μ : Mem) : Int := if shorterV (tv μ t) (fun a b => μ 179 (a * 8 + b)) = true then 1 else 0
def S_X3_isShorter : S0t := fun as μ Q => match as with
  | [(2, x0), (2, x1)] => P_X3_isShorter x0 x1 μ ∧ Q μ (some (kI (F_X3_isShorter x0 x1 μ)))
  | _ => False
theorem mono_X3_isShorter : Mono S_X3_isShorter := by
  intro as μ Q Q' h hS
  unfold S_X3_isShorter at hS ⊢
  split at hS
  · exact ⟨hS.1, h _ _ hS.2⟩
  · exact hS.elim
def iX3_isShorter : Inf := (kX3_isShorter, fTX3, pTX3, cTX3, lTX3, sTX3, [(34, 1, 2, 0, S_X10_isIn)])
theorem ok_X3_isShorter : infOK iX3_isShorter mX3_isShorter RX3 1 21 := ⟨kkX3_isShorter, fTX3_ok, pTX3_ok _, cTX3_ok, lTX3_ok, sTX3_ok, c_cons ⟨mX10_isIn, 0, 0, ct_X10_isIn, mmX10_isIn, stX10_isIn, lkX3_34, ⟨by decide, by decide⟩, mono_X10_isIn⟩ (c_nil)⟩
theorem mt_X3_isShorter : mtOK [] RX3 1 21 := mt_nil
abbrev V_X3_isShorter (R : Mem → Option AV → Prop) (pc : Nat) (lc : List (Nat × AV)) (μ : Mem) : Prop := VM mX3_isShorter RX3 1 21 R pc lc [] μ
set_option maxRecDepth 20000 in
theorem vc_X3_isShorter_0 {R : Mem → Option AV → Prop} {t : Int} {μ : Mem} (ht : isT t) (H : V_X3_isShorter R 9 [(0, kR 178), (1, kR t), (2, kI (bor (μ t 4) 1)), (3, kI 0)] μ) : V_X3_isShorter R 0 [(0, kR 178), (1, kR t)] μ := by
  refine vm_step2 mt_X3_isShorter ok_X3_isShorter [(9, [0, 1, 2, 3]), (20, [0, 1, 2, 3, 4])] 1000 ?_
  show isC t 7 ∧ V_X3_isShorter R 9 [(0, kR 178), (1, kR t), (2, kI (bor (μ t 4) 1)), (3, kI 0)] μ
  exact ⟨isT_C ht, H⟩
set_option maxRecDepth 20000 in
theorem vc_X3_isShorter_9 {R : Mem → Option AV → Prop} {me a t : Int} {μ : Mem} (ht : isT t) (H : r32 a ∧ r32 (μ t 1) ∧ (((μ t 1) ≤ a) → R μ (some (kI 0))) ∧ (¬ ((μ t 1) ≤ a) → V_X3_isShorter R 20 [(0, kR 178), (1, kR t), (2, kI me), (3, kI a), (4, kI 0)] μ)) : V_X3_isShorter R 9 [(0, kR 178), (1, kR t), (2, kI me), (3, kI a)] μ := by
  refine vm_step2 mt_X3_isShorter ok_X3_isShorter [(9, [0, 1, 2, 3]), (20, [0, 1, 2, 3, 4])] 1000 ?_
  show isC t 7 ∧ (r32 a ∧ r32 (μ t 1)) ∧ (((μ t 1) ≤ a) → (0 ≤ (0 : Int) ∧ (0 : Int) ≤ 1) ∧ R μ (some (kI 0))) ∧ (¬ ((μ t 1) ≤ a) → V_X3_isShorter R 20 [(0, kR 178), (1, kR t), (2, kI me), (3, kI a), (4, kI 0)] μ)
  exact ⟨isT_C ht, ⟨⟨H.1, H.2.1⟩, fun hc1 => ⟨⟨by omega, by omega⟩, (H.2.2.1 hc1)⟩, fun hc1 => (H.2.2.2 hc1)⟩⟩
set_option maxRecDepth 20000 in
theorem vc_X3_isShorter_20 {R : Mem → Option AV → Prop} {me a b t : Int} {μ : Mem} (ht : isT t) (H : r32 b ∧ r32 (μ t 1) ∧ (((μ t 1) ≤ b) → V_X3_isShorter R 9 [(0, kR 178), (1, kR t), (2, kI me), (3, kI (a + 1))] μ) ∧ (¬ ((μ t 1) ≤ b) → P_X10_isIn me a μ ∧ r32 (F_X10_isIn me a μ) ∧ (((F_X10_isIn me a μ) = 0) → V_X3_isShorter R 20 [(0, kR 178), (1, kR t), (2, kI me), (3, kI a), (4, kI (b + 1))] μ) ∧ (¬ ((F_X10_isIn me a μ) = 0) → P_X10_isIn me b μ ∧ r32 (F_X10_isIn me b μ) ∧ (((F_X10_isIn me b μ) = 0) → V_X3_isShorter R 20 [(0, kR 178), (1, kR t), (2, kI me), (3, kI a), (4, kI (b + 1))] μ) ∧ (¬ ((F_X10_isIn me b μ) = 0) → (0 ≤ ((a * 8) + b) ∧ ((a * 8) + b) < 64) ∧ (0 ≤ ((a * 8) + b) ∧ ((a * 8) + b) < 64) ∧ r32 (μ 179 ((a * 8) + b)) ∧ r32 (μ (t + 2) ((a * 8) + b)) ∧ (((μ (t + 2) ((a * 8) + b)) ≤ (μ 179 ((a * 8) + b))) → V_X3_isShorter R 20 [(0, kR 178), (1, kR t), (2, kI me), (3, kI a), (4, kI (b + 1))] μ) ∧ (¬ ((μ (t + 2) ((a * 8) + b)) ≤ (μ 179 ((a * 8) + b))) → R μ (some (kI 1))))))) : V_X3_isShorter R 20 [(0, kR 178), (1, kR t), (2, kI me), (3, kI a), (4, kI b)] μ := by
  refine vm_step2 mt_X3_isShorter ok_X3_isShorter [(9, [0, 1, 2, 3]), (20, [0, 1, 2, 3, 4])] 1000 ?_
  show isC t 7 ∧ (r32 b ∧ r32 (μ t 1)) ∧ (((μ t 1) ≤ b) → V_X3_isShorter R 9 [(0, kR 178), (1, kR t), (2, kI me), (3, kI (a + 1))] μ) ∧ (¬ ((μ t 1) ≤ b) → P_X10_isIn me a μ ∧ r32 (F_X10_isIn me a μ) ∧ (((F_X10_isIn me a μ) = 0) → V_X3_isShorter R 20 [(0, kR 178), (1, kR t), (2, kI me), (3, kI a), (4, kI (b + 1))] μ) ∧ (¬ ((F_X10_isIn me a μ) = 0) → P_X10_isIn me b μ ∧ r32 (F_X10_isIn me b μ) ∧ (((F_X10_isIn me b μ) = 0) → V_X3_isShorter R 20 [(0, kR 178), (1, kR t), (2, kI me), (3, kI a), (4, kI (b + 1))] μ) ∧ (¬ ((F_X10_isIn me b μ) = 0) → isC 178 3 ∧ inA 179 0 ((a * 8) + b) ∧ isC t 7 ∧ inA (t + 2) 0 ((a * 8) + b) ∧ (r32 (μ 179 ((a * 8) + b)) ∧ r32 (μ (t + 2) ((a * 8) + b))) ∧ (((μ (t + 2) ((a * 8) + b)) ≤ (μ 179 ((a * 8) + b))) → V_X3_isShorter R 20 [(0, kR 178), (1, kR t), (2, kI me), (3, kI a), (4, kI (b + 1))] μ) ∧ (¬ ((μ (t + 2) ((a * 8) + b)) ≤ (μ 179 ((a * 8) + b))) → (0 ≤ (1 : Int) ∧ (1 : Int) ≤ 1) ∧ R μ (some (kI 1))))))
  exact ⟨isT_C ht, ⟨⟨H.1, H.2.1⟩, fun hc5 => (H.2.2.1 hc5), fun hc5 => ⟨(H.2.2.2 hc5).1, ⟨(H.2.2.2 hc5).2.1, fun hc4 => ((H.2.2.2 hc5).2.2.1 hc4), fun hc4 => ⟨((H.2.2.2 hc5).2.2.2 hc4).1, ⟨((H.2.2.2 hc5).2.2.2 hc4).2.1, fun hc3 => (((H.2.2.2 hc5).2.2.2 hc4).2.2.1 hc3), fun hc3 => ⟨c_178, ⟨isArr.in a_179 (((H.2.2.2 hc5).2.2.2 hc4).2.2.2 hc3).1.1 (((H.2.2.2 hc5).2.2.2 hc4).2.2.2 hc3).1.2, ⟨isT_C ht, ⟨isArr.in (T_ways ht) (((H.2.2.2 hc5).2.2.2 hc4).2.2.2 hc3).2.1.1 (((H.2.2.2 hc5).2.2.2 hc4).2.2.2 hc3).2.1.2, ⟨⟨(((H.2.2.2 hc5).2.2.2 hc4).2.2.2 hc3).2.2.1, (((H.2.2.2 hc5).2.2.2 hc4).2.2.2 hc3).2.2.2.1⟩, fun hc2 => ((((H.2.2.2 hc5).2.2.2 hc4).2.2.2 hc3).2.2.2.2.1 hc2), fun hc2 => ⟨⟨by omega, by omega⟩, ((((H.2.2.2 hc5).2.2.2 hc4).2.2.2 hc3).2.2.2.2.2 hc2)⟩⟩⟩⟩⟩⟩⟩⟩⟩⟩⟩⟩
theorem body_X3_isShorter {o t : Int} {μ : Mem} {R : Mem → Option AV → Prop} (h : P_X3_isShorter o t μ) (hR : R μ (some (kI (F_X3_isShorter o t μ)))) : V_X3_isShorter R 0 [(0, kR o), (1, kR t)] μ := by
  obtain ⟨rfl, hr, hX⟩ := h
  have ht := hr.1.1
  have ok := hr.1.2
  have hp : 2 ≤ μ t 1 ∧ μ t 1 ≤ 8 := ok.1
  have hpe : tv μ t 0 0 = μ t 1 := rfl
  have hme := fun (a : Int) (a0 : 0 ≤ a) (a1 : a < 31) => met_has ok a0 a1
  have hw := hr.2.1
  unfold F_X3_isShorter shorterV at hR
  rw [hpe] at hR
  refine vc_X3_isShorter_0 ht ?_
  rw [hr.2.2.2.2.2]
  have pa : ∀ a : Int, 0 ≤ a → a ≤ μ t 1 → (∀ a' : Int, 0 ≤ a' → a' < a → allV (fun b => !(metB (tv μ t) a' && metB (tv μ t) b && decide (μ 179 (a' * 8 + b) < wayV (tv μ t) a' b))) (μ t 1) = true) → V_X3_isShorter R 9 [(0, kR 178), (1, kR t), (2, kI (bor (cellV (tv μ t)) 1)), (3, kI a)] μ := by
    refine up_ind (P := fun a => (∀ a' : Int, 0 ≤ a' → a' < a → allV (fun b => !(metB (tv μ t) a' && metB (tv μ t) b && decide (μ 179 (a' * 8 + b) < wayV (tv μ t) a' b))) (μ t 1) = true) → V_X3_isShorter R 9 [(0, kR 178), (1, kR t), (2, kI (bor (cellV (tv μ t)) 1)), (3, kI a)] μ) ?_ ?_
    · intro a a0 a1 ih hq
      refine vc_X3_isShorter_9 ht ⟨rr (by omega), rr (by omega), fun c => absurd c (by omega), fun _ => ?_⟩
      have pb : ∀ b : Int, 0 ≤ b → b ≤ μ t 1 → (∀ b' : Int, 0 ≤ b' → b' < b → (!(metB (tv μ t) a && metB (tv μ t) b' && decide (μ 179 (a * 8 + b') < wayV (tv μ t) a b'))) = true) → V_X3_isShorter R 20 [(0, kR 178), (1, kR t), (2, kI (bor (cellV (tv μ t)) 1)), (3, kI a), (4, kI b)] μ := by
        refine up_ind (P := fun b => (∀ b' : Int, 0 ≤ b' → b' < b → (!(metB (tv μ t) a && metB (tv μ t) b' && decide (μ 179 (a * 8 + b') < wayV (tv μ t) a b'))) = true) → V_X3_isShorter R 20 [(0, kR 178), (1, kR t), (2, kI (bor (cellV (tv μ t)) 1)), (3, kI a), (4, kI b)] μ) ?_ ?_
        · intro b b0 b1 ihb hqb
          have ea := hme a a0 (by omega)
          have eb := hme b b0 (by omega)
          have nx : (!(metB (tv μ t) a && metB (tv μ t) b && decide (μ 179 (a * 8 + b) < wayV (tv μ t) a b))) = true → V_X3_isShorter R 20 [(0, kR 178), (1, kR t), (2, kI (bor (cellV (tv μ t)) 1)), (3, kI a), (4, kI (b + 1))] μ := fun h => ihb (fun b' x0 x1 => by
            by_cases e : b' = b
            · subst e; exact h
            · exact hqb b' x0 (by omega))
          refine vc_X3_isShorter_20 ht ⟨rr (by omega), rr (by omega), fun c => absurd c (by omega), fun _ => ⟨⟨by omega, by omega⟩, ?_⟩⟩
          unfold F_X10_isIn
          rw [ea.2, eb.2]
          by_cases ma : metB (tv μ t) a = true
          · rw [if_pos ma]
            refine ⟨rr (by omega), fun c => absurd c (by omega), fun _ => ⟨⟨by omega, by omega⟩, ?_⟩⟩
            by_cases mb : metB (tv μ t) b = true
            · rw [if_pos mb]
              have ew := e8 hw a0 a1 b0 b1
              have bw := hw a b a0 a1 b0 b1
              refine ⟨rr (by omega), fun c => absurd c (by omega), fun _ => ⟨by omega, by omega, hX a b a0 a1 b0 b1, by rw [ew]; exact rr (by omega), fun c => nx ?_, fun c => ?_⟩⟩
              · rw [ew] at c
                rw [ma, mb, decide_eq_false (by omega)]; rfl
              · rw [ew] at c
                rw [if_pos] at hR
                · exact hR
                · rw [Bool.not_eq_true', Bool.eq_false_iff]
                  intro q
                  have q1 := (allV_ok (by omega)).mp q a a0 a1
                  have q2 := (allV_ok (by omega)).mp q1 b b0 b1
                  have q3 : (!(metB (tv μ t) a && metB (tv μ t) b && decide (μ 179 (a * 8 + b) < wayV (tv μ t) a b))) = true := q2
                  rw [ma, mb, decide_eq_true (show μ 179 (a * 8 + b) < wayV (tv μ t) a b by omega)] at q3
                  exact absurd q3 (by decide)
            · rw [if_neg mb]
              exact ⟨rr (by omega), fun _ => nx (by rw [ma, Bool.eq_false_iff.mpr mb]; rfl), fun c => absurd rfl c⟩
          · rw [if_neg ma]
            exact ⟨rr (by omega), fun _ => nx (by rw [Bool.eq_false_iff.mpr ma]; rfl), fun c => absurd rfl c⟩
        · intro hqb
          refine vc_X3_isShorter_20 ht ⟨rr (by omega), rr (by omega), fun _ => ih (fun a' x0 x1 => ?_), fun c => absurd (Int.le_refl _) c⟩
          by_cases e : a' = a
          · subst e; exact (allV_ok (by omega)).mpr hqb
          · exact hq a' x0 (by omega)
      exact pb 0 (Int.le_refl _) (by omega) (fun b' x0 x1 => absurd x0 (by omega))
    · intro hq
      refine vc_X3_isShorter_9 ht ⟨rr (by omega), rr (by omega), fun _ => ?_, fun c => absurd (Int.le_refl _) c⟩
      have e : allV (fun a => allV (fun b => !(metB (tv μ t) a && metB (tv μ t) b && decide (μ 179 (a * 8 + b) < wayV (tv μ t) a b))) (μ t 1)) (μ t 1) = true := (allV_ok (by omega)).mpr hq
      rw [e] at hR
      exact hR
  exact pa 0 (Int.le_refl _) (by omega) (fun a' x0 x1 => absurd x0 (by omega))
theorem ct_X3_isShorter : Ct mX3_isShorter 1 21 0 0 (nrmS S_X3_isShorter) := by
  refine ct_vm (own := RX3) (by decide +kernel) rfl ?_ ?_
  · intro as μ Q hS
    unfold S_X3_isShorter at hS
    split at hS
    · exact Nat.le_of_ble_eq_true rfl
    · exact hS.elim
  · intro as μ R hS
    unfold S_X3_isShorter at hS
    split at hS
    · exact body_X3_isShorter hS.1 hS.2
    · exact hS.elim
/-! the games of a town -/
theorem gw_way {v : TV} (ok : TVok v) (hj : joined v) {s : Int} (h : ∀ a : Int, 0 ≤ a → a < 8 → hasB s a = true → hasB (awayV v) a = true) : GW (wayV v) s := by
  have hp := ok.1
  have hin := fun (a : Int) (a0 : 0 ≤ a) (a1 : a < 8) (ha : hasB s a = true) => away_in ok a a0 a1 (h a a0 a1 ha)
  refine ⟨?_, fun a b a0 a1 ha b0 b1 hb => ?_⟩
  · cases q : hasB s 0
    · rfl
    · have := h 0 (by omega) (by omega) q
      rw [away_has ok (Int.le_refl _)] at this
      exact absurd this (by simp)
  · have hb1 := hin b b0 b1 hb
    have ha1 : a < v 0 0 := by
      rcases ha with q | q
      · omega
      · exact hin a a0 a1 q
    exact ⟨way_bd ok hj a0 ha1 b0 hb1, fun hab => way_pos ok hj a0 ha1 b0 hb1 hab⟩
theorem gw_wid {v : TV} (ok : TVok v) (hj : joined v) {p q k : Int} (hk : 1 ≤ k) (p0 : 0 ≤ p) (p1 : p < v 0 0) (q0 : 0 ≤ q) (q1 : q < v 0 0) : GW (widV (wayV v) p q k) (awayV v) := by
  have hp := ok.1
  have g := gw_way ok hj (s := awayV v) (fun _ _ _ h => h)
  refine ⟨g.1, fun a b a0 a1 ha b0 b1 hb => ?_⟩
  have hb1 := away_in ok b b0 b1 hb
  have ha1 : a < v 0 0 := by
    rcases ha with q | q
    · omega
    · exact away_in ok a a0 a1 q
  refine ⟨wid_bd ok hj (by omega) p0 p1 q0 q1 a0 ha1 b0 hb1, fun hab => ?_⟩
  have h1 := way_pos ok hj a0 ha1 b0 hb1 hab
  have h2 := way_bd ok hj a0 ha1 p0 p1
  have h3 := way_bd ok hj a0 ha1 q0 q1
  have h4 := way_bd ok hj p0 p1 b0 hb1
  have h5 := way_bd ok hj q0 q1 b0 hb1
  unfold widV
  omega
theorem settle_P {μ : Mem} {g z s : Int} {W : Int → Int → Int} (hg : isG g) (hz : isArr z 0 64) (hzg : z < g ∨ g + 10 < z) (hs : 0 ≤ s ∧ s < 256) (hw : GW W s) (he : sameW (fun a b => μ z (a * 8 + b)) W s) (hi : GInv μ g) : P_X0_settle g z s μ :=
  ⟨hg, hz, hzg, hs, fun a b a0 a1 ha b0 b1 hb => by
    have e : μ z (a * 8 + b) = W a b := he a b a0 a1 ha b0 b1 hb
    rw [e]; exact (hw.2 a b a0 a1 ha b0 b1 hb).1, hi⟩
theorem settle_Q {μ μ' : Mem} {g z s r : Int} {W : Int → Int → Int} (hn : 1 ≤ popc s ∧ popc s ≤ 4) (hw : GW W s) (he : sameW (fun a b => μ z (a * 8 + b)) W s) (h : Q_X0_settle g z s μ μ' r) : r = 1 ∧ 0 < μ' g 14 ∧ gv W s = (μ' g 14, μ' g 15, μ' g 16, clip (μ' g 14) (μ' (g + 4)), clip (μ' g 14) (μ' (g + 5)), clip (μ' g 14) (μ' (g + 9)), clip (μ' g 14) (μ' (g + 10))) := by
  obtain ⟨_, _, _, h4⟩ := h
  obtain ⟨hr, _, _, F, hk, hf⟩ := h4 hn
  have := KerR_has hw hn hk (FoundA_W he hn.2 hf)
  exact ⟨by rw [hr, if_pos this.1], this⟩
theorem same_way {μ : Mem} {t s : Int} (h : TR μ t) (hs : ∀ a : Int, 0 ≤ a → a < 8 → hasB s a = true → hasB (awayV (tv μ t)) a = true) : sameW (fun a b => μ (t + 2) (a * 8 + b)) (wayV (tv μ t)) s := fun a b a0 a1 ha b0 b1 hb => by
  have ok := h.1.2
  have hp := ok.1
  refine e8 h.2.1 a0 ?_ b0 (away_in ok b b0 b1 (hs b b0 b1 hb))
  rcases ha with q | q
  · omega
  · exact away_in ok a a0 a1 (hs a a0 a1 q)
/-- what a lane more is worth -/
noncomputable def opF (v : TV) (k : Int) (j : Int) : Int × Int := ((gv (widV (wayV v) (j / 8) (j % 8) k) (awayV v)).2.1, (gv (widV (wayV v) (j / 8) (j % 8) k) (awayV v)).2.2.1)
noncomputable def openV (v : TV) (k : Int) : Int → (Int × Int) × Int := mnR (newB v) (opF v k)
def OpR (μ : Mem) (M : (Int × Int) × Int) : Prop := (M.2 < 0 → μ 178 6 = -1) ∧ (0 ≤ M.2 → μ 178 6 = M.2 / 8 ∧ μ 178 7 = M.2 % 8 ∧ μ 178 8 = M.1.1 ∧ μ 178 9 = M.1.2)
def P_X3_weighLane (o t p q g1 g2 : Int) (μ : Mem) : Prop := o = 178 ∧ g1 = 156 ∧ g2 = 167 ∧ TR μ t ∧ (0 ≤ p ∧ p < q ∧ q < tv μ t 0 0) ∧ (1 ≤ μ 178 5 ∧ μ 178 5 ≤ 20) ∧ (1 ≤ popc (awayV (tv μ t)) ∧ popc (awayV (tv μ t)) ≤ 4) ∧ (μ 156 15 = (gv (wayV (tv μ t)) (awayV (tv μ t))).2.1 ∧ μ 156 16 = (gv (wayV (tv μ t)) (awayV (tv μ t))).2.2.1) ∧ GInv μ 167 ∧
  (μ 178 6 = -1 ∨ ((0 ≤ μ 178 6 ∧ μ 178 6 < 8) ∧ (0 ≤ μ 178 8 ∧ μ 178 8 ≤ 2360279040000) ∧ (1 ≤ μ 178 9 ∧ μ 178 9 ≤ 4214784000)))
def Q_X3_weighLane (_ t p q _ _ : Int) (μ μ' : Mem) : Prop := (∀ z : Int, (z < 167 ∨ 179 < z) → μ' z = μ z) ∧ GInv μ' 167 ∧ (∀ f : Int, (f < 6 ∨ 9 < f) → μ' 178 f = μ 178 f) ∧
  ∀ M : (Int × Int) × Int, -1 ≤ M.2 → OpR μ M → OpR μ' (if M.2 < 0 ∨ (opF (tv μ t) (μ 178 5) (8 * p + q)).1 * M.1.2 < M.1.1 * (opF (tv μ t) (μ 178 5) (8 * p + q)).2 then (opF (tv μ t) (μ 178 5) (8 * p + q), 8 * p + q) else M)
theorem GInv_frame {μ m : Mem} {g : Int} (h : GInv μ g) (hf : ∀ z : Int, g ≤ z → z ≤ g + 10 → m z = μ z) : GInv m g := by
  obtain ⟨h1, h2, h3, h4⟩ := h
  unfold GInv ChR
  rw [hf (g + 6) (by omega) (by omega), hf (g + 3) (by omega) (by omega), hf g (by omega) (by omega)]
  refine ⟨h1, h2, h3, fun c => ?_⟩
  obtain ⟨F, q1, q2⟩ := h4 c
  exact ⟨F, q1, KerR_frame q2 (hf _ (by omega) (by omega)) (hf _ (by omega) (by omega)) (hf _ (by omega) (by omega)) (hf _ (by omega) (by omega)) (by rw [hf g (by omega) (by omega)]) (by rw [hf g (by omega) (by omega)]) (by rw [hf g (by omega) (by omega)])⟩
def S_X3_weighLane : S0t := fun as μ Q => match as with
  | [(2, x0), (2, x1), (0, x2), (0, x3), (2, x4), (2, x5)] => P_X3_weighLane x0 x1 x2 x3 x4 x5 μ ∧ ∀ (μ' : Mem) , Q_X3_weighLane x0 x1 x2 x3 x4 x5 μ μ'  → Q μ' none
  | _ => False
theorem mono_X3_weighLane : Mono S_X3_weighLane := by
  intro as μ Q Q' h hS
  unfold S_X3_weighLane at hS ⊢
  split at hS
  · exact ⟨hS.1, fun μ' q => h _ _ (hS.2 _ q)⟩
  · exact hS.elim
def iX3_weighLane : Inf := (kX3_weighLane, fTX3, pTX3, cTX3, lTX3, sTX3, [(81, 0, 4, 7, S_X7_widen), (85, 0, 1, 3, S_X3_isShorter), (60, 1, 4, 0, S_X10_isLess), (15, 0, 0, 7, S_X7_cellarsAway), (41, 0, 2, 0, S_X0_settle)])
theorem ok_X3_weighLane : infOK iX3_weighLane mX3_weighLane RX3 4 108 := ⟨kkX3_weighLane, fTX3_ok, pTX3_ok _, cTX3_ok, lTX3_ok, sTX3_ok, c_cons ⟨mX7_widen, 1, 21, ct_X7_widen, mmX7_widen, vvX7_widen, lkX3_81, ⟨by decide, by decide⟩, ⟨_, _, rfl⟩, by decide, mono_X7_widen⟩ (c_cons ⟨mX3_isShorter, 1, 21, ct_X3_isShorter, mmX3_isShorter, vvX3_isShorter, lkX3_85, ⟨by decide, by decide⟩, ⟨_, _, rfl⟩, by decide, mono_X3_isShorter⟩ (c_cons ⟨mX10_isLess, 0, 0, ct_X10_isLess, mmX10_isLess, stX10_isLess, lkX3_60, ⟨by decide, by decide⟩, mono_X10_isLess⟩ (c_cons ⟨mX7_cellarsAway, 0, 0, ct_X7_cellarsAway, mmX7_cellarsAway, vvX7_cellarsAway, lkX3_15, ⟨by decide, by decide⟩, ⟨_, _, rfl⟩, by decide, mono_X7_cellarsAway⟩ (c_cons ⟨mX0_settle, 3, 83, ct_X0_settle, mmX0_settle, vvX0_settle, lkX3_41, ⟨by decide, by decide⟩, ⟨_, _, rfl⟩, by decide, mono_X0_settle⟩ (c_nil)))))⟩
theorem mt_X3_weighLane : mtOK [] RX3 4 108 := mt_nil
abbrev V_X3_weighLane (R : Mem → Option AV → Prop) (pc : Nat) (lc : List (Nat × AV)) (μ : Mem) : Prop := VM mX3_weighLane RX3 4 108 R pc lc [] μ
set_option maxRecDepth 20000 in
theorem vc_X3_weighLane_0 {R : Mem → Option AV → Prop} {p q t : Int} {μ : Mem} (ht : isT t) (H : P_X7_widen t p q (μ 178 5) 179 μ ∧ (∀ (μ1 : Mem), Q_X7_widen t p q (μ 178 5) 179 μ μ1 → V_X3_weighLane R 14 [(0, kR 178), (1, kR t), (2, kI p), (3, kI q), (4, kR 156), (5, kR 167)] μ1)) : V_X3_weighLane R 0 [(0, kR 178), (1, kR t), (2, kI p), (3, kI q), (4, kR 156), (5, kR 167)] μ := by
  refine vm_step2 mt_X3_weighLane ok_X3_weighLane [(14, [0, 1, 2, 3, 4, 5]), (84, [0, 3, 6]), (89, [0, 6]), (98, [0, 6])] 1000 ?_
  show isC 178 3 ∧ isC 178 3 ∧ isC t 7 ∧ P_X7_widen t p q (μ 178 5) 179 μ ∧ (∀ (μ1 : Mem), Q_X7_widen t p q (μ 178 5) 179 μ μ1 → V_X3_weighLane R 14 [(0, kR 178), (1, kR t), (2, kI p), (3, kI q), (4, kR 156), (5, kR 167)] μ1)
  exact ⟨c_178, ⟨c_178, ⟨isT_C ht, H.1, fun μ1 hq3 => (H.2 μ1 hq3)⟩⟩⟩
set_option maxRecDepth 20000 in
theorem vc_X3_weighLane_14 {R : Mem → Option AV → Prop} {p q t : Int} {μ : Mem} (ht : isT t) (H : P_X3_isShorter 178 t μ ∧ r32 (F_X3_isShorter 178 t μ) ∧ (((F_X3_isShorter 178 t μ) = 0) → r32 (μ 178 6) ∧ (((μ 178 6) = (-1 : Int)) → V_X3_weighLane R 84 [(0, kR 178), (3, kI q), (6, kR 156)] (updm μ 178 6 p)) ∧ (¬ ((μ 178 6) = (-1 : Int)) → P_X10_isLess (μ 156 15) (μ 156 16) (μ 178 8) (μ 178 9) μ ∧ r32 (F_X10_isLess (μ 156 15) (μ 156 16) (μ 178 8) (μ 178 9) μ) ∧ (((F_X10_isLess (μ 156 15) (μ 156 16) (μ 178 8) (μ 178 9) μ) = 0) → R μ none) ∧ (¬ ((F_X10_isLess (μ 156 15) (μ 156 16) (μ 178 8) (μ 178 9) μ) = 0) → V_X3_weighLane R 84 [(0, kR 178), (3, kI q), (6, kR 156)] (updm μ 178 6 p)))) ∧ (¬ ((F_X3_isShorter 178 t μ) = 0) → P_X7_cellarsAway t μ ∧ P_X0_settle 167 179 (F_X7_cellarsAway t μ) μ ∧ (∀ (μ6 : Mem) (rv7 : Int), Q_X0_settle 167 179 (F_X7_cellarsAway t μ) μ μ6 rv7 → r32 rv7 ∧ ((¬ rv7 = 0) → r32 (μ6 178 6) ∧ (((μ6 178 6) = (-1 : Int)) → V_X3_weighLane R 84 [(0, kR 178), (3, kI q), (6, kR 167)] (updm μ6 178 6 p)) ∧ (¬ ((μ6 178 6) = (-1 : Int)) → P_X10_isLess (μ6 167 15) (μ6 167 16) (μ6 178 8) (μ6 178 9) μ6 ∧ r32 (F_X10_isLess (μ6 167 15) (μ6 167 16) (μ6 178 8) (μ6 178 9) μ6) ∧ (((F_X10_isLess (μ6 167 15) (μ6 167 16) (μ6 178 8) (μ6 178 9) μ6) = 0) → R μ6 none) ∧ (¬ ((F_X10_isLess (μ6 167 15) (μ6 167 16) (μ6 178 8) (μ6 178 9) μ6) = 0) → V_X3_weighLane R 84 [(0, kR 178), (3, kI q), (6, kR 167)] (updm μ6 178 6 p)))) ∧ (¬ (¬ rv7 = 0) → R μ6 none)))) : V_X3_weighLane R 14 [(0, kR 178), (1, kR t), (2, kI p), (3, kI q), (4, kR 156), (5, kR 167)] μ := by
  refine vm_step2 mt_X3_weighLane ok_X3_weighLane [(14, [0, 1, 2, 3, 4, 5]), (84, [0, 3, 6]), (89, [0, 6]), (98, [0, 6])] 1000 ?_
  show isC 178 3 ∧ P_X3_isShorter 178 t μ ∧ r32 (F_X3_isShorter 178 t μ) ∧ (((F_X3_isShorter 178 t μ) = 0) → isC 178 3 ∧ (r32 (μ 178 6) ∧ r32 (-1 : Int)) ∧ (((μ 178 6) = (-1 : Int)) → isC 178 3 ∧ 0 = 0 ∧ True ∧ V_X3_weighLane R 84 [(0, kR 178), (3, kI q), (6, kR 156)] (updm μ 178 6 p)) ∧ (¬ ((μ 178 6) = (-1 : Int)) → isC 156 0 ∧ isC 156 0 ∧ isC 178 3 ∧ isC 178 3 ∧ P_X10_isLess (μ 156 15) (μ 156 16) (μ 178 8) (μ 178 9) μ ∧ r32 (F_X10_isLess (μ 156 15) (μ 156 16) (μ 178 8) (μ 178 9) μ) ∧ (((F_X10_isLess (μ 156 15) (μ 156 16) (μ 178 8) (μ 178 9) μ) = 0) → R μ none) ∧ (¬ ((F_X10_isLess (μ 156 15) (μ 156 16) (μ 178 8) (μ 178 9) μ) = 0) → isC 178 3 ∧ 0 = 0 ∧ True ∧ V_X3_weighLane R 84 [(0, kR 178), (3, kI q), (6, kR 156)] (updm μ 178 6 p)))) ∧ (¬ ((F_X3_isShorter 178 t μ) = 0) → isC 178 3 ∧ isC t 7 ∧ P_X7_cellarsAway t μ ∧ isC 167 0 ∧ P_X0_settle 167 179 (F_X7_cellarsAway t μ) μ ∧ (∀ (μ6 : Mem) (rv7 : Int), Q_X0_settle 167 179 (F_X7_cellarsAway t μ) μ μ6 rv7 → r32 rv7 ∧ ((¬ rv7 = 0) → isC 178 3 ∧ (r32 (μ6 178 6) ∧ r32 (-1 : Int)) ∧ (((μ6 178 6) = (-1 : Int)) → isC 178 3 ∧ 0 = 0 ∧ True ∧ V_X3_weighLane R 84 [(0, kR 178), (3, kI q), (6, kR 167)] (updm μ6 178 6 p)) ∧ (¬ ((μ6 178 6) = (-1 : Int)) → isC 167 0 ∧ isC 167 0 ∧ isC 178 3 ∧ isC 178 3 ∧ P_X10_isLess (μ6 167 15) (μ6 167 16) (μ6 178 8) (μ6 178 9) μ6 ∧ r32 (F_X10_isLess (μ6 167 15) (μ6 167 16) (μ6 178 8) (μ6 178 9) μ6) ∧ (((F_X10_isLess (μ6 167 15) (μ6 167 16) (μ6 178 8) (μ6 178 9) μ6) = 0) → R μ6 none) ∧ (¬ ((F_X10_isLess (μ6 167 15) (μ6 167 16) (μ6 178 8) (μ6 178 9) μ6) = 0) → isC 178 3 ∧ 0 = 0 ∧ True ∧ V_X3_weighLane R 84 [(0, kR 178), (3, kI q), (6, kR 167)] (updm μ6 178 6 p)))) ∧ (¬ (¬ rv7 = 0) → R μ6 none)))
  exact ⟨c_178, H.1, ⟨H.2.1, fun hc12 => ⟨c_178, ⟨⟨(H.2.2.1 hc12).1, by unfold r32; omega⟩, fun hc5 => ⟨c_178, rfl, trivial, ((H.2.2.1 hc12).2.1 hc5)⟩, fun hc5 => ⟨c_156, ⟨c_156, ⟨c_178, ⟨c_178, ⟨((H.2.2.1 hc12).2.2 hc5).1, ⟨((H.2.2.1 hc12).2.2 hc5).2.1, fun hc4 => (((H.2.2.1 hc12).2.2 hc5).2.2.1 hc4), fun hc4 => ⟨c_178, rfl, trivial, (((H.2.2.1 hc12).2.2 hc5).2.2.2 hc4)⟩⟩⟩⟩⟩⟩⟩⟩⟩, fun hc12 => ⟨c_178, ⟨isT_C ht, (H.2.2.2 hc12).1, ⟨c_167, (H.2.2.2 hc12).2.1, fun μ6 rv7 hq8 => ⟨((H.2.2.2 hc12).2.2 μ6 rv7 hq8).1, fun hc11 => ⟨c_178, ⟨⟨(((H.2.2.2 hc12).2.2 μ6 rv7 hq8).2.1 hc11).1, by unfold r32; omega⟩, fun hc10 => ⟨c_178, rfl, trivial, ((((H.2.2.2 hc12).2.2 μ6 rv7 hq8).2.1 hc11).2.1 hc10)⟩, fun hc10 => ⟨c_167, ⟨c_167, ⟨c_178, ⟨c_178, ⟨((((H.2.2.2 hc12).2.2 μ6 rv7 hq8).2.1 hc11).2.2 hc10).1, ⟨((((H.2.2.2 hc12).2.2 μ6 rv7 hq8).2.1 hc11).2.2 hc10).2.1, fun hc9 => (((((H.2.2.2 hc12).2.2 μ6 rv7 hq8).2.1 hc11).2.2 hc10).2.2.1 hc9), fun hc9 => ⟨c_178, rfl, trivial, (((((H.2.2.2 hc12).2.2 μ6 rv7 hq8).2.1 hc11).2.2 hc10).2.2.2 hc9)⟩⟩⟩⟩⟩⟩⟩⟩⟩, fun hc11 => (((H.2.2.2 hc12).2.2 μ6 rv7 hq8).2.2 hc11)⟩⟩⟩⟩⟩⟩
set_option maxRecDepth 20000 in
theorem vc_X3_weighLane_84 {R : Mem → Option AV → Prop} {q t gg : Int} {μ : Mem} (ht : isT t) (hgg : isG gg) (H : V_X3_weighLane R 89 [(0, kR 178), (6, kR gg)] (updm μ 178 7 q)) : V_X3_weighLane R 84 [(0, kR 178), (3, kI q), (6, kR gg)] μ := by
  refine vm_step2 mt_X3_weighLane ok_X3_weighLane [(14, [0, 1, 2, 3, 4, 5]), (84, [0, 3, 6]), (89, [0, 6]), (98, [0, 6])] 1000 ?_
  show isC 178 3 ∧ 0 = 0 ∧ True ∧ V_X3_weighLane R 89 [(0, kR 178), (6, kR gg)] (updm μ 178 7 q)
  exact ⟨c_178, rfl, trivial, H⟩
set_option maxRecDepth 20000 in
theorem vc_X3_weighLane_89 {R : Mem → Option AV → Prop} {t gg : Int} {μ : Mem} (ht : isT t) (hgg : isG gg) (H : V_X3_weighLane R 98 [(0, kR 178), (6, kR gg)] (updm μ 178 8 (μ gg 15))) : V_X3_weighLane R 89 [(0, kR 178), (6, kR gg)] μ := by
  refine vm_step2 mt_X3_weighLane ok_X3_weighLane [(14, [0, 1, 2, 3, 4, 5]), (84, [0, 3, 6]), (89, [0, 6]), (98, [0, 6])] 1000 ?_
  show isC gg 0 ∧ isC 178 3 ∧ 1 = 1 ∧ True ∧ V_X3_weighLane R 98 [(0, kR 178), (6, kR gg)] (updm μ 178 8 (μ gg 15))
  exact ⟨isG_C hgg, ⟨c_178, rfl, trivial, H⟩⟩
set_option maxRecDepth 20000 in
theorem vc_X3_weighLane_98 {R : Mem → Option AV → Prop} {t gg : Int} {μ : Mem} (ht : isT t) (hgg : isG gg) (H : R (updm μ 178 9 (μ gg 16)) none) : V_X3_weighLane R 98 [(0, kR 178), (6, kR gg)] μ := by
  refine vm_step2 mt_X3_weighLane ok_X3_weighLane [(14, [0, 1, 2, 3, 4, 5]), (84, [0, 3, 6]), (89, [0, 6]), (98, [0, 6])] 1000 ?_
  show isC gg 0 ∧ isC 178 3 ∧ 1 = 1 ∧ True ∧ R (updm μ 178 9 (μ gg 16)) none
  exact ⟨isG_C hgg, ⟨c_178, rfl, trivial, H⟩⟩
theorem body_X3_weighLane {o t p q g1 g2 : Int} {μ : Mem} {R : Mem → Option AV → Prop} (h : P_X3_weighLane o t p q g1 g2 μ) (hR : ∀ μ' : Mem, Q_X3_weighLane o t p q g1 g2 μ μ' → R μ' none) : V_X3_weighLane R 0 [(0, kR o), (1, kR t), (2, kI p), (3, kI q), (4, kR g1), (5, kR g2)] μ := by
  obtain ⟨rfl, rfl, rfl, hr, hpq, hk, hn, hgame, hinv, hcur⟩ := h
  have ht := hr.1.1
  have ok := hr.1.2
  have hj := hr.2.2.1
  have hp : 2 ≤ μ t 1 ∧ μ t 1 ≤ 8 := ok.1
  have hpe : tv μ t 0 0 = μ t 1 := rfl
  have hT := isT_hi ht
  have hab := away_bd ok
  rw [hpe] at hpq
  have ed : (8 * p + q) / 8 = p := by omega
  have em : (8 * p + q) % 8 = q := by omega
  have gww := gw_wid ok hj hk.1 hpq.1 (show p < tv μ t 0 0 by rw [hpe]; omega) (show 0 ≤ q by omega) (show q < tv μ t 0 0 by rw [hpe]; omega)
  have gbd := gv_bd gww hn
  have ef : opF (tv μ t) (μ 178 5) (8 * p + q) = ((gv (widV (wayV (tv μ t)) p q (μ 178 5)) (awayV (tv μ t))).2.1, (gv (widV (wayV (tv μ t)) p q (μ 178 5)) (awayV (tv μ t))).2.2.1) := by
    unfold opF; rw [ed, em]
  unfold Q_X3_weighLane at hR
  rw [ef] at hR
  generalize hA : (gv (widV (wayV (tv μ t)) p q (μ 178 5)) (awayV (tv μ t))).2.1 = A at *
  generalize hB : (gv (widV (wayV (tv μ t)) p q (μ 178 5)) (awayV (tv μ t))).2.2.1 = B at *
  refine vc_X3_weighLane_0 ht ⟨⟨hr.1, hr.2.1, by omega, by omega, ⟨hk.1, hk.2⟩, a_179, by omega⟩, fun m1 q1 => ?_⟩
  unfold Q_X7_widen at q1
  have fr1 : ∀ z : Int, z ≠ 179 → m1 z = μ z := q1.2
  have hr1 := TR_frame hr (fun z z0 z1 => fr1 z (by omega))
  have etv1 : tv m1 t = tv μ t := tv_frame (fun z z0 z1 => fr1 z (by omega))
  have e178 : m1 178 = μ 178 := fr1 _ (by omega)
  have e156 : m1 156 = μ 156 := fr1 _ (by omega)
  have wd : ∀ a b : Int, 0 ≤ a → a < μ t 1 → 0 ≤ b → b < μ t 1 → m1 179 (a * 8 + b) = widV (wayV (tv μ t)) p q (μ 178 5) a b := fun a b a0 a1 b0 b1 => by
    have := q1.1 a b a0 a1 b0 b1
    have e : 8 * a + b = a * 8 + b := by omega
    rw [e] at this
    exact this
  -- with what it is worth
  have take : ∀ (gg : Int) (m : Mem), isG gg → (∀ z : Int, (z < 167 ∨ 179 < z) → m z = μ z) → GInv m 167 → m 178 = μ 178 → m gg 15 = A → m gg 16 = B → (μ 178 6 = -1 ∨ A * μ 178 9 < μ 178 8 * B) → V_X3_weighLane R 84 [(0, kR 178), (3, kI q), (6, kR gg)] (updm m 178 6 p) := by
    intro gg m hgg hf hi h178 h15 h16 hc
    have hg2 := isG_two hgg
    refine vc_X3_weighLane_84 ht hgg (vc_X3_weighLane_89 ht hgg (vc_X3_weighLane_98 ht hgg (hR _ ⟨fun z hz => by rw [ru_ne (by omega), ru_ne (by omega), ru_ne (by omega), ru_ne (by omega)]; exact hf z hz, GInv_frame hi (fun z z0 z1 => by rw [ru_ne (by omega), ru_ne (by omega), ru_ne (by omega), ru_ne (by omega)]), fun f hf => ?_, fun M hM1 hM => ?_⟩)))
    · rw [ru_eq, r1_ne (by omega), ru_eq, r1_ne (by omega), ru_eq, r1_ne (by omega), ru_eq, r1_ne (by omega), h178]
    · have hlt : M.2 < 0 ∨ A * M.1.2 < M.1.1 * B := by
        by_cases c : M.2 < 0
        · exact Or.inl c
        · have h := hM.2 (by omega)
          rw [h.1, h.2.2.1, h.2.2.2] at hc
          rcases hc with q | q
          · omega
          · exact Or.inr q
      rw [if_pos hlt]
      have x15 : updm (updm m 178 6 p) 178 7 q gg 15 = A := by rw [ru_ne (by omega), ru_ne (by omega)]; exact h15
      have x16 : updm (updm (updm m 178 6 p) 178 7 q) 178 8 (updm (updm m 178 6 p) 178 7 q gg 15) gg 16 = B := by rw [ru_ne (by omega), ru_ne (by omega), ru_ne (by omega)]; exact h16
      rw [x16, x15]
      refine ⟨fun c => absurd (show 8 * p + q < 0 from c) (by omega), fun _ => ⟨?_, ?_, ?_, ?_⟩⟩
      · rw [ru_eq, r1_ne (by omega), ru_eq, r1_ne (by omega), ru_eq, r1_ne (by omega), ru_eq, r1_eq]; exact ed.symm
      · rw [ru_eq, r1_ne (by omega), ru_eq, r1_ne (by omega), ru_eq, r1_eq]; exact em.symm
      · rw [ru_eq, r1_ne (by omega), ru_eq, r1_eq]
      · rw [ru_eq, r1_eq]
  have skip : ∀ m : Mem, (∀ z : Int, (z < 167 ∨ 179 < z) → m z = μ z) → GInv m 167 → m 178 = μ 178 → ¬ μ 178 6 = -1 → ¬ A * μ 178 9 < μ 178 8 * B → R m none := by
    intro m hf hi h178 h1 h2
    refine hR m ⟨hf, hi, fun f _ => by rw [h178], fun M hM1 hM => ?_⟩
    have h0 : ¬ M.2 < 0 := fun c => h1 (hM.1 c)
    have h := hM.2 (by omega)
    rw [h.2.2.1, h.2.2.2] at h2
    rw [if_neg (fun q => q.elim h0 h2)]
    unfold OpR
    rw [h178]
    exact hM
  refine vc_X3_weighLane_14 ht ?_
  unfold F_X3_isShorter F_X10_isLess lessI
  rw [etv1, e178, e156]
  have r6 : r32 (μ 178 6) := by
    rcases hcur with q | q
    · rw [q]; exact rr (by omega)
    · exact rr (by omega)
  have pl : ∀ x y : Int, 0 ≤ x ∧ x ≤ 2360279040000 → 1 ≤ y ∧ y ≤ 4214784000 → ¬ μ 178 6 = -1 → ∀ m : Mem, P_X10_isLess x y (μ 178 8) (μ 178 9) m := fun x y hx hy hc m => by
    rcases hcur with q | q
    · exact absurd q hc
    · exact ⟨by omega, by omega, by omega, by omega⟩
  refine ⟨⟨rfl, hr1, fun a b a0 a1 b0 b1 => ?_⟩, ?_⟩
  · rw [etv1, hpe] at a1 b1
    rw [wd a b a0 a1 b0 b1]
    have := wid_bd ok hj (show 0 ≤ μ 178 5 by omega) hpq.1 (show p < tv μ t 0 0 by rw [hpe]; omega) (show 0 ≤ q by omega) (show q < tv μ t 0 0 by rw [hpe]; omega) a0 (show a < tv μ t 0 0 from a1) b0 (show b < tv μ t 0 0 from b1)
    exact rr (by omega)
  have hi1 : GInv m1 167 := GInv_frame hinv (fun z z0 z1 => fr1 z (by omega))
  have g0 := gv_bd (gw_way ok hj (s := awayV (tv μ t)) (fun _ _ _ h => h)) hn
  by_cases hsh : shorterV (tv μ t) (fun a b => m1 179 (a * 8 + b)) = true
  · rw [if_pos hsh]
    have haw := TR_away hr1
    rw [etv1] at haw
    refine ⟨rr (by omega), fun c => absurd c (by omega), fun _ => ?_⟩
    rw [haw.1]
    have he : sameW (fun a b => m1 179 (a * 8 + b)) (widV (wayV (tv μ t)) p q (μ 178 5)) (awayV (tv μ t)) := fun a b a0 a1 ha b0 b1 hb => by
      refine wd a b a0 ?_ b0 (away_in ok b b0 b1 hb)
      rcases ha with q | q
      · omega
      · exact away_in ok a a0 a1 q
    refine ⟨haw.2, settle_P (by unfold isG; decide) a_179 (by omega) hab gww he hi1, fun m6 r7 q6 => ?_⟩
    obtain ⟨s1, s2, s3⟩ := settle_Q hn gww he q6
    have f6 : ∀ z : Int, (z < 167 ∨ 179 < z) → m6 z = μ z := fun z hz => by rw [q6.1 z (by omega), fr1 z (by omega)]
    have h178 : m6 178 = μ 178 := by rw [q6.1 178 (by omega), e178]
    have hA6 : m6 167 15 = A := by rw [← hA, s3]
    have hB6 : m6 167 16 = B := by rw [← hB, s3]
    rw [h178, hA6, hB6]
    refine ⟨by rw [s1]; exact rr (by omega), fun _ => ⟨r6, fun c => take 167 m6 (by unfold isG; decide) f6 q6.2.1 h178 hA6 hB6 (Or.inl c), fun c => ⟨pl A B gbd.2.2.1 gbd.2.2.2 c _, ?_⟩⟩, fun c => absurd (show ¬ r7 = 0 by omega) c⟩
    by_cases hl : A * μ 178 9 < μ 178 8 * B
    · rw [if_pos hl]
      exact ⟨rr (by omega), fun c => absurd c (by omega), fun _ => take 167 m6 (by unfold isG; decide) f6 q6.2.1 h178 hA6 hB6 (Or.inr hl)⟩
    · rw [if_neg hl]
      exact ⟨rr (by omega), fun _ => skip m6 f6 q6.2.1 h178 c hl, fun c => absurd rfl c⟩
  · rw [if_neg hsh]
    refine ⟨rr (by omega), fun _ => ?_, fun c => absurd rfl c⟩
    -- the ways between those that are met are the same
    have hsame : gv (widV (wayV (tv μ t)) p q (μ 178 5)) (awayV (tv μ t)) = gv (wayV (tv μ t)) (awayV (tv μ t)) := by
      refine gv_congr hn.2 (fun a b a0 a1 ha b0 b1 hb => ?_)
      have hb2 := away_in ok b b0 b1 hb
      have ha2 : a < tv μ t 0 0 := by
        rcases ha with q | q
        · omega
        · exact away_in ok a a0 a1 q
      have mt : ∀ c : Int, 0 ≤ c → (c = 0 ∨ hasB (awayV (tv μ t)) c = true) → metB (tv μ t) c = true := fun c c0 hc => by
        unfold metB
        rcases hc with q | q
        · rw [decide_eq_true q]; rfl
        · rw [away_has ok c0] at q
          rw [cell_has ok c0]
          have q1 := Bool.and_eq_true _ _ |>.mp q
          have q2 := Bool.and_eq_true _ _ |>.mp q1.1
          rw [q1.2, q2.2, Bool.and_true, Bool.or_true]
      have hle : widV (wayV (tv μ t)) p q (μ 178 5) a b ≤ wayV (tv μ t) a b := by
        unfold widV; omega
      have hge : ¬ m1 179 (a * 8 + b) < wayV (tv μ t) a b := fun q => by
        refine hsh ?_
        unfold shorterV
        rw [Bool.not_eq_true', Bool.eq_false_iff]
        intro q0
        have q1 := (allV_ok (by omega)).mp q0 a a0 ha2
        have q2 := (allV_ok (by omega)).mp q1 b b0 hb2
        have q3 : (!(metB (tv μ t) a && metB (tv μ t) b && decide (m1 179 (a * 8 + b) < wayV (tv μ t) a b))) = true := q2
        rw [mt a a0 ha, mt b b0 (Or.inr hb), decide_eq_true q] at q3
        exact absurd q3 (by decide)
      rw [wd a b a0 ha2 b0 hb2] at hge
      omega
    rw [hsame] at hA hB
    have hA1 : μ 156 15 = A := by rw [← hA]; exact hgame.1
    have hB1 : μ 156 16 = B := by rw [← hB]; exact hgame.2
    rw [hA1, hB1]
    have f1' : ∀ z : Int, (z < 167 ∨ 179 < z) → m1 z = μ z := fun z hz => fr1 z (by omega)
    refine ⟨r6, fun c => take 156 m1 (by unfold isG; decide) f1' hi1 e178 (by rw [e156]; exact hA1) (by rw [e156]; exact hB1) (Or.inl c), fun c => ⟨pl A B gbd.2.2.1 gbd.2.2.2 c _, ?_⟩⟩
    by_cases hl : A * μ 178 9 < μ 178 8 * B
    · rw [if_pos hl]
      exact ⟨rr (by omega), fun c => absurd c (by omega), fun _ => take 156 m1 (by unfold isG; decide) f1' hi1 e178 (by rw [e156]; exact hA1) (by rw [e156]; exact hB1) (Or.inr hl)⟩
    · rw [if_neg hl]
      exact ⟨rr (by omega), fun _ => skip m1 f1' hi1 e178 c hl, fun c => absurd rfl c⟩
theorem ct_X3_weighLane : Ct mX3_weighLane 4 108 0 0 (nrmS S_X3_weighLane) := by
  refine ct_vm (own := RX3) (by decide +kernel) rfl ?_ ?_
  · intro as μ Q hS
    unfold S_X3_weighLane at hS
    split at hS
    · exact Nat.le_of_ble_eq_true rfl
    · exact hS.elim
  · intro as μ R hS
    unfold S_X3_weighLane at hS
    split at hS
    · exact body_X3_weighLane hS.1 hS.2
    · exact hS.elim
