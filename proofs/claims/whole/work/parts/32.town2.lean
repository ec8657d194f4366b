/-- the first of n that holds, or -1 -/
def frst (q : Int → Bool) (n : Int) : Int := fold (fun r i => if r < 0 ∧ q i = true then i else r) (-1) n
theorem frst_none {q : Int → Bool} {n : Int} (hn : 0 ≤ n) (h : ∀ i, 0 ≤ i → i < n → q i = false) : frst q n = -1 :=
  fold_ind (P := fun _ y => y = -1) rfl (fun i y h0 h1 e => by
    show (if y < 0 ∧ q i = true then i else y) = -1
    rw [if_neg (fun c => by rw [h i h0 h1] at c; exact absurd c.2 (by decide))]
    exact e) hn
theorem frst_at {q : Int → Bool} {n k : Int} (h0 : 0 ≤ k) (h1 : k < n) (hk : q k = true) (h : ∀ i, 0 ≤ i → i < k → q i = false) : frst q n = k := by
  have key : ∀ m : Int, k + 1 ≤ m → m ≤ n → fold (fun r i => if r < 0 ∧ q i = true then i else r) (-1) m = k := by
    intro m hm hmn
    have e0 : fold (fun r i => if r < 0 ∧ q i = true then i else r) (-1) (k + 1) = k := by
      rw [fold_s h0]
      have := frst_none h0 h
      unfold frst at this
      rw [this, if_pos ⟨by omega, hk⟩]
    have : ∀ d : Nat, (k + 1 + d ≤ n) → fold (fun r i => if r < 0 ∧ q i = true then i else r) (-1) (k + 1 + d) = k := by
      intro d
      induction d with
      | zero => intro _; simpa using e0
      | succ d ih =>
        intro hd
        have e : k + 1 + ((d + 1 : Nat) : Int) = (k + 1 + (d : Int)) + 1 := by omega
        rw [e, fold_s (by omega), ih (by omega), if_neg (by omega)]
    have := this (m - (k + 1)).toNat (by omega)
    rwa [show k + 1 + (((m - (k + 1)).toNat : Nat) : Int) = m by omega] at this
  exact key n (by omega) (Int.le_refl n)
theorem frst_cases (q : Int → Bool) {n : Int} (hn : 0 ≤ n) : (frst q n = -1 ∧ ∀ i, 0 ≤ i → i < n → q i = false) ∨ ∃ k, 0 ≤ k ∧ k < n ∧ frst q n = k ∧ q k = true ∧ ∀ i, 0 ≤ i → i < k → q i = false := by
  refine fold_ind (P := fun m y => (y = -1 ∧ ∀ i, 0 ≤ i → i < m → q i = false) ∨ ∃ k, 0 ≤ k ∧ k < m ∧ y = k ∧ q k = true ∧ ∀ i, 0 ≤ i → i < k → q i = false) (Or.inl ⟨rfl, fun i a b => absurd a (by omega)⟩) (fun m y m0 _ ih => ?_) hn
  rcases ih with ⟨e, h⟩ | ⟨k, k0, k1, e, hk, h⟩
  · by_cases hq : q m = true
    · refine Or.inr ⟨m, m0, by omega, ?_, hq, h⟩
      rw [if_pos ⟨by omega, hq⟩]
    · refine Or.inl ⟨?_, fun i i0 i1 => ?_⟩
      · rw [if_neg (fun c => hq c.2)]; exact e
      · by_cases hi : i = m
        · rw [hi]; simpa using hq
        · exact h i i0 (by omega)
  · refine Or.inr ⟨k, k0, by omega, ?_, hk, h⟩
    rw [if_neg (by omega)]; exact e
/-- where a walk stands before its stop i; its minutes up to there -/
def posV (v : TV) (w i : Int) : Int := if i = 0 then 0 else v 11 (16 * w + (i - 1))
def timV (v : TV) (w i : Int) : Int := sm (fun k => wayV v (posV v w k) (v 11 (16 * w + k))) i
def foundV (v : TV) (w p : Int) : Int := if p = 0 then 0 else if frst (fun i => v 11 (16 * w + i) == p) (v 9 w) < 0 then -1 else timV v w (frst (fun i => v 11 (16 * w + i) == p) (v 9 w) + 1)
/-- the class's ways -/
def WY (μ : Mem) (t : Int) : Prop := ∀ a b : Int, 0 ≤ a → a < tv μ t 0 0 → 0 ≤ b → b < tv μ t 0 0 → μ (t + 2) (8 * a + b) = wayV (tv μ t) a b ∧ 0 ≤ wayV (tv μ t) a b ∧ wayV (tv μ t) a b ≤ 140
theorem e8 {μ : Mem} {t a b : Int} (h : WY μ t) (a0 : 0 ≤ a) (a1 : a < tv μ t 0 0) (b0 : 0 ≤ b) (b1 : b < tv μ t 0 0) : μ (t + 2) (a * 8 + b) = wayV (tv μ t) a b := by
  have e : a * 8 + b = 8 * a + b := by omega
  rw [e]
  exact (h a b a0 a1 b0 b1).1
theorem e9 (μ : Mem) (t : Int) {w : Int} (w0 : 0 ≤ w) (w1 : w < tv μ t 8 0) : μ (t + 7) w = tv μ t 9 w := (clip_in (f := μ (t + 7)) w0 w1).symm
theorem e10 (μ : Mem) (t : Int) {w : Int} (w0 : 0 ≤ w) (w1 : w < tv μ t 8 0) : μ (t + 8) w = tv μ t 10 w := (clip_in (f := μ (t + 8)) w0 w1).symm
theorem e11 (μ : Mem) (t : Int) {w i : Int} (w0 : 0 ≤ w) (w1 : w < tv μ t 8 0) (i0 : 0 ≤ i) (i1 : i < tv μ t 9 w) (i2 : i < 16) : μ (t + 6) (w * 16 + i) = tv μ t 11 (16 * w + i) := by
  have e : w * 16 + i = 16 * w + i := by omega
  rw [e]
  have d : (16 * w + i) / 16 = w := by omega
  have r : (16 * w + i) % 16 = i := by omega
  show _ = if 0 ≤ 16 * w + i ∧ (16 * w + i) / 16 < μ t 12 ∧ (16 * w + i) % 16 < μ (t + 7) ((16 * w + i) / 16) then μ (t + 6) (16 * w + i) else 0
  rw [d, r, if_pos]
  refine ⟨by omega, w1, ?_⟩
  rw [e9 μ t w0 w1]
  exact i1
theorem timV_bd {μ : Mem} {t w : Int} (ok : TVok (tv μ t)) (hw : WY μ t) (w0 : 0 ≤ w) (w1 : w < tv μ t 8 0) {i : Int} (i0 : 0 ≤ i) (i1 : i ≤ tv μ t 9 w) : 0 ≤ timV (tv μ t) w i ∧ timV (tv μ t) w i ≤ 2240 := by
  have h9 := ok.2.2.2.2.2.2.2.2.1 w w0 w1
  have h := sm_bd (f := fun k => wayV (tv μ t) (posV (tv μ t) w k) (tv μ t 11 (16 * w + k))) (n := i) (c := 0) (d := 140) (fun k k0 k1 => by
    have a1 := h9.2.2 k k0 (by omega)
    have a2 : 0 ≤ posV (tv μ t) w k ∧ posV (tv μ t) w k < tv μ t 0 0 := by
      unfold posV
      by_cases hk : k = 0
      · rw [if_pos hk]; have := ok.1; omega
      · rw [if_neg hk]; exact h9.2.2 (k - 1) (by omega) (by omega)
    exact (hw _ _ a2.1 a2.2 a1.1 a1.2).2) i0
  unfold timV
  omega
theorem foundV_bd {μ : Mem} {t w p : Int} (ok : TVok (tv μ t)) (hw : WY μ t) (w0 : 0 ≤ w) (w1 : w < tv μ t 8 0) : -1 ≤ foundV (tv μ t) w p ∧ foundV (tv μ t) w p ≤ 2240 := by
  have h9 := (ok.2.2.2.2.2.2.2.2.1 w w0 w1).1
  unfold foundV
  by_cases hp : p = 0
  · rw [if_pos hp]; omega
  · rw [if_neg hp]
    rcases frst_cases (fun i => tv μ t 11 (16 * w + i) == p) (n := tv μ t 9 w) h9.1 with ⟨e, -⟩ | ⟨k, k0, k1, e, -⟩
    · rw [if_pos (by omega)]; omega
    · rw [if_neg (by omega), e]
      have := timV_bd ok hw w0 w1 (i := k + 1) (by omega) (by omega)
      omega
def P_X7_foundBy (t w p : Int) (μ : Mem) : Prop := TB μ t ∧ WY μ t ∧ (0 ≤ w ∧ w < tv μ t 8 0) ∧ r32 p
def F_X7_foundBy (t w p : Int) (μ : Mem) : Int := foundV (tv μ t) w p
def S_X7_foundBy : S0t := fun as μ Q => match as with
  | [(2, x0), (0, x1), (0, x2)] => P_X7_foundBy x0 x1 x2 μ ∧ Q μ (some (kI (F_X7_foundBy x0 x1 x2 μ)))
  | _ => False
theorem mono_X7_foundBy : Mono S_X7_foundBy := by
  intro as μ Q Q' h hS
  unfold S_X7_foundBy at hS ⊢
  split at hS
  · exact ⟨hS.1, h _ _ hS.2⟩
  · exact hS.elim
def iX7_foundBy : Inf := (kX7_foundBy, fTX7, pTX7, cTX7, lTX7, sTX7, [])
theorem ok_X7_foundBy : infOK iX7_foundBy mX7_foundBy RX7 0 0 := ⟨kkX7_foundBy, fTX7_ok, pTX7_ok _, cTX7_ok, lTX7_ok, sTX7_ok, c_nil⟩
theorem mt_X7_foundBy : mtOK [] RX7 0 0 := mt_nil
abbrev V_X7_foundBy (R : Mem → Option AV → Prop) (pc : Nat) (lc : List (Nat × AV)) (μ : Mem) : Prop := VM mX7_foundBy RX7 0 0 R pc lc [] μ
set_option maxRecDepth 20000 in
theorem vc_X7_foundBy_0 {R : Mem → Option AV → Prop} {w p t : Int} {μ : Mem} (ht : isT t) (H : r32 p ∧ ((¬ p = 0) → V_X7_foundBy R 14 [(0, kR t), (1, kI w), (2, kI p), (3, kI 0), (4, kI 0), (5, kI 0)] μ) ∧ (¬ (¬ p = 0) → R μ (some (kI 0)))) : V_X7_foundBy R 0 [(0, kR t), (1, kI w), (2, kI p)] μ := by
  refine vm_step2 mt_X7_foundBy ok_X7_foundBy [(14, [0, 1, 2, 3, 4, 5])] 1000 ?_
  show r32 p ∧ ((¬ p = 0) → V_X7_foundBy R 14 [(0, kR t), (1, kI w), (2, kI p), (3, kI 0), (4, kI 0), (5, kI 0)] μ) ∧ (¬ (¬ p = 0) → R μ (some (kI 0)))
  exact ⟨H.1, fun hc1 => (H.2.1 hc1), fun hc1 => (H.2.2 hc1)⟩
set_option maxRecDepth 20000 in
theorem vc_X7_foundBy_14 {R : Mem → Option AV → Prop} {w p at_ mi i t : Int} {μ : Mem} (ht : isT t) (H : (0 ≤ w ∧ w < 8) ∧ r32 i ∧ r32 (μ (t + 7) w) ∧ (((μ (t + 7) w) ≤ i) → R μ (some (kI (-1)))) ∧ (¬ ((μ (t + 7) w) ≤ i) → r32 i ∧ (((16 : Int) ≤ i) → R μ (some (kI (-1)))) ∧ (¬ ((16 : Int) ≤ i) → (0 ≤ ((w * 16) + i) ∧ ((w * 16) + i) < 128) ∧ (0 ≤ ((at_ * 8) + (μ (t + 6) ((w * 16) + i))) ∧ ((at_ * 8) + (μ (t + 6) ((w * 16) + i))) < 64) ∧ r32 (μ (t + 6) ((w * 16) + i)) ∧ r32 p ∧ ((¬ (μ (t + 6) ((w * 16) + i)) = p) → V_X7_foundBy R 14 [(0, kR t), (1, kI w), (2, kI p), (3, kI (μ (t + 6) ((w * 16) + i))), (4, kI (mi + (μ (t + 2) ((at_ * 8) + (μ (t + 6) ((w * 16) + i)))))), (5, kI (i + 1))] μ) ∧ (¬ (¬ (μ (t + 6) ((w * 16) + i)) = p) → R μ (some (kI (mi + (μ (t + 2) ((at_ * 8) + (μ (t + 6) ((w * 16) + i))))))))))) : V_X7_foundBy R 14 [(0, kR t), (1, kI w), (2, kI p), (3, kI at_), (4, kI mi), (5, kI i)] μ := by
  refine vm_step2 mt_X7_foundBy ok_X7_foundBy [(14, [0, 1, 2, 3, 4, 5])] 1000 ?_
  show isC t 7 ∧ inA (t + 7) 0 w ∧ (r32 i ∧ r32 (μ (t + 7) w)) ∧ (((μ (t + 7) w) ≤ i) → R μ (some (kI (-1)))) ∧ (¬ ((μ (t + 7) w) ≤ i) → (r32 i ∧ r32 (16 : Int)) ∧ (((16 : Int) ≤ i) → R μ (some (kI (-1)))) ∧ (¬ ((16 : Int) ≤ i) → isC t 7 ∧ inA (t + 6) 0 ((w * 16) + i) ∧ isC t 7 ∧ inA (t + 2) 0 ((at_ * 8) + (μ (t + 6) ((w * 16) + i))) ∧ (r32 (μ (t + 6) ((w * 16) + i)) ∧ r32 p) ∧ ((¬ (μ (t + 6) ((w * 16) + i)) = p) → V_X7_foundBy R 14 [(0, kR t), (1, kI w), (2, kI p), (3, kI (μ (t + 6) ((w * 16) + i))), (4, kI (mi + (μ (t + 2) ((at_ * 8) + (μ (t + 6) ((w * 16) + i)))))), (5, kI (i + 1))] μ) ∧ (¬ (¬ (μ (t + 6) ((w * 16) + i)) = p) → R μ (some (kI (mi + (μ (t + 2) ((at_ * 8) + (μ (t + 6) ((w * 16) + i))))))))))
  exact ⟨isT_C ht, ⟨isArr.in (T_stopCount ht) H.1.1 H.1.2, ⟨⟨H.2.1, H.2.2.1⟩, fun hc4 => (H.2.2.2.1 hc4), fun hc4 => ⟨⟨(H.2.2.2.2 hc4).1, by unfold r32; omega⟩, fun hc3 => ((H.2.2.2.2 hc4).2.1 hc3), fun hc3 => ⟨isT_C ht, ⟨isArr.in (T_stops ht) ((H.2.2.2.2 hc4).2.2 hc3).1.1 ((H.2.2.2.2 hc4).2.2 hc3).1.2, ⟨isT_C ht, ⟨isArr.in (T_ways ht) ((H.2.2.2.2 hc4).2.2 hc3).2.1.1 ((H.2.2.2.2 hc4).2.2 hc3).2.1.2, ⟨⟨((H.2.2.2.2 hc4).2.2 hc3).2.2.1, ((H.2.2.2.2 hc4).2.2 hc3).2.2.2.1⟩, fun hc2 => (((H.2.2.2.2 hc4).2.2 hc3).2.2.2.2.1 hc2), fun hc2 => (((H.2.2.2.2 hc4).2.2 hc3).2.2.2.2.2 hc2)⟩⟩⟩⟩⟩⟩⟩⟩⟩
theorem body_X7_foundBy {t w p : Int} {μ : Mem} {R : Mem → Option AV → Prop} (h : P_X7_foundBy t w p μ) (hR : R μ (some (kI (F_X7_foundBy t w p μ)))) : V_X7_foundBy R 0 [(0, kR t), (1, kI w), (2, kI p)] μ := by
  obtain ⟨⟨ht, ok⟩, hw, hw1, hp⟩ := h
  have h8 : 0 ≤ tv μ t 8 0 ∧ tv μ t 8 0 ≤ 8 := ok.2.2.2.2.2.2.2.1
  have hpl := ok.1
  have h9 := ok.2.2.2.2.2.2.2.2.1 w hw1.1 hw1.2
  have en := e9 μ t hw1.1 hw1.2
  have hp' : -2147483648 ≤ p ∧ p ≤ 2147483647 := hp
  refine vc_X7_foundBy_0 ht ⟨hp, fun hp0 => ?_, fun c => r_eq hR (by unfold F_X7_foundBy foundV; rw [if_pos (by omega)])⟩
  refine up_ind (P := fun i => (∀ k, 0 ≤ k → k < i → (tv μ t 11 (16 * w + k) == p) = false) → V_X7_foundBy R 14 [(0, kR t), (1, kI w), (2, kI p), (3, kI (posV (tv μ t) w i)), (4, kI (timV (tv μ t) w i)), (5, kI i)] μ) (lo := 0) (hi := tv μ t 9 w) ?_ ?_ 0 (by omega) (by omega) (fun k a b => absurd a (by omega))
  · intro i i0 i1 ih hno
    have hs := h9.2.2 i i0 i1
    have es := e11 μ t hw1.1 hw1.2 i0 i1 (by omega)
    have hpos : 0 ≤ posV (tv μ t) w i ∧ posV (tv μ t) w i < tv μ t 0 0 := by
      unfold posV
      by_cases hk : i = 0
      · rw [if_pos hk]; omega
      · rw [if_neg hk]; exact h9.2.2 (i - 1) (by omega) (by omega)
    have ew := e8 hw hpos.1 hpos.2 hs.1 hs.2
    have et : timV (tv μ t) w (i + 1) = timV (tv μ t) w i + wayV (tv μ t) (posV (tv μ t) w i) (tv μ t 11 (16 * w + i)) := sm_s i0
    have ep : posV (tv μ t) w (i + 1) = tv μ t 11 (16 * w + i) := by
      unfold posV
      rw [if_neg (by omega), show i + 1 - 1 = i by omega]
    refine vc_X7_foundBy_14 ht ⟨⟨hw1.1, by omega⟩, rr (by omega), rr (by omega), fun c => absurd c (by omega), fun _ => ⟨rr (by omega), fun c => absurd c (by omega), fun _ => ?_⟩⟩
    rw [es, ew]
    refine ⟨by omega, by omega, rr (by omega), hp, fun c => ?_, fun c => r_eq hR ?_⟩
    · have := ih (fun k k0 k1 => by
        by_cases hk : k = i
        · rw [hk]; simpa using c
        · exact hno k k0 (by omega))
      rw [et, ep] at this
      exact this
    · have ec : tv μ t 11 (16 * w + i) = p := by omega
      unfold F_X7_foundBy foundV
      rw [if_neg hp0, frst_at i0 i1 (by simpa using ec) hno, if_neg (by omega), et]
  · intro hno
    refine vc_X7_foundBy_14 ht ⟨⟨hw1.1, by omega⟩, rr (by omega), rr (by omega), fun _ => r_eq hR ?_, fun c => absurd (Int.le_of_eq en) c⟩
    unfold F_X7_foundBy foundV
    rw [if_neg hp0, frst_none h9.1.1 hno, if_pos (by omega)]
theorem ct_X7_foundBy : Ct mX7_foundBy 0 0 0 0 (nrmS S_X7_foundBy) := by
  refine ct_vm (own := RX7) (by decide +kernel) rfl ?_ ?_
  · intro as μ Q hS
    unfold S_X7_foundBy at hS
    split at hS
    · exact Nat.le_of_ble_eq_true rfl
    · exact hS.elim
  · intro as μ R hS
    unfold S_X7_foundBy at hS
    split at hS
    · exact body_X7_foundBy hS.1 hS.2
    · exact hS.elim
theorem mul_bd {a b A B : Int} (a0 : 0 ≤ a) (a1 : a ≤ A) (b0 : 0 ≤ b) (b1 : b ≤ B) : 0 ≤ a * b ∧ a * b ≤ A * B := ⟨Int.mul_nonneg a0 b0, Int.mul_le_mul a1 b1 b0 (by omega)⟩
/-- whether a walk comes to every cellar among the first n places; its minutes by chances -/
def allFoundV (v : TV) (w n : Int) : Bool := allV (fun a => decide (v 4 a ≤ 0 ∨ foundV v w a ≠ -1)) n
def meanSum (v : TV) (w n : Int) : Int := sm (fun a => if v 4 a ≤ 0 then 0 else v 4 a * foundV v w a) n
def meanV (v : TV) (w : Int) : Int := if allFoundV v w (v 0 0) = true then meanSum v w (v 0 0) else -1
def P_X7_meanOf (t w : Int) (μ : Mem) : Prop := TB μ t ∧ WY μ t ∧ (0 ≤ w ∧ w < tv μ t 8 0)
def F_X7_meanOf (t w : Int) (μ : Mem) : Int := meanV (tv μ t) w
def S_X7_meanOf : S0t := fun as μ Q => match as with
  | [(2, x0), (0, x1)] => P_X7_meanOf x0 x1 μ ∧ Q μ (some (kI (F_X7_meanOf x0 x1 μ)))
  | _ => False
theorem mono_X7_meanOf : Mono S_X7_meanOf := by
  intro as μ Q Q' h hS
  unfold S_X7_meanOf at hS ⊢
  split at hS
  · exact ⟨hS.1, h _ _ hS.2⟩
  · exact hS.elim
def iX7_meanOf : Inf := (kX7_meanOf, fTX7, pTX7, cTX7, lTX7, sTX7, [(97, 0, 2, 7, S_X7_foundBy)])
theorem ok_X7_meanOf : infOK iX7_meanOf mX7_meanOf RX7 1 26 := ⟨kkX7_meanOf, fTX7_ok, pTX7_ok _, cTX7_ok, lTX7_ok, sTX7_ok, c_cons ⟨mX7_foundBy, 0, 0, ct_X7_foundBy, mmX7_foundBy, vvX7_foundBy, lkX7_97, ⟨by decide, by decide⟩, ⟨_, _, rfl⟩, by decide, mono_X7_foundBy⟩ (c_nil)⟩
theorem mt_X7_meanOf : mtOK [] RX7 1 26 := mt_nil
abbrev V_X7_meanOf (R : Mem → Option AV → Prop) (pc : Nat) (lc : List (Nat × AV)) (μ : Mem) : Prop := VM mX7_meanOf RX7 1 26 R pc lc [] μ
set_option maxRecDepth 20000 in
theorem vc_X7_meanOf_0 {R : Mem → Option AV → Prop} {w t : Int} {μ : Mem} (ht : isT t) (H : V_X7_meanOf R 4 [(0, kR t), (1, kI w), (2, kI 0), (3, kI 0)] μ) : V_X7_meanOf R 0 [(0, kR t), (1, kI w)] μ := by
  refine vm_step2 mt_X7_meanOf ok_X7_meanOf [(4, [0, 1, 2, 3])] 1000 ?_
  show V_X7_meanOf R 4 [(0, kR t), (1, kI w), (2, kI 0), (3, kI 0)] μ
  exact H
set_option maxRecDepth 20000 in
theorem vc_X7_meanOf_4 {R : Mem → Option AV → Prop} {w sum a t : Int} {μ : Mem} (ht : isT t) (H : r32 a ∧ r32 (μ t 1) ∧ (((μ t 1) ≤ a) → R μ (some (kI sum))) ∧ (¬ ((μ t 1) ≤ a) → (0 ≤ a ∧ a < 8) ∧ r32 (μ (t + 3) a) ∧ (((μ (t + 3) a) ≤ 0) → V_X7_meanOf R 4 [(0, kR t), (1, kI w), (2, kI sum), (3, kI (a + 1))] μ) ∧ (¬ ((μ (t + 3) a) ≤ 0) → P_X7_foundBy t w a μ ∧ r32 (F_X7_foundBy t w a μ) ∧ ((¬ (F_X7_foundBy t w a μ) = (-1 : Int)) → (0 ≤ a ∧ a < 8) ∧ V_X7_meanOf R 4 [(0, kR t), (1, kI w), (2, kI (sum + ((μ (t + 3) a) * (F_X7_foundBy t w a μ)))), (3, kI (a + 1))] μ) ∧ (¬ (¬ (F_X7_foundBy t w a μ) = (-1 : Int)) → R μ (some (kI (-1))))))) : V_X7_meanOf R 4 [(0, kR t), (1, kI w), (2, kI sum), (3, kI a)] μ := by
  refine vm_step2 mt_X7_meanOf ok_X7_meanOf [(4, [0, 1, 2, 3])] 1000 ?_
  show isC t 7 ∧ (r32 a ∧ r32 (μ t 1)) ∧ (((μ t 1) ≤ a) → R μ (some (kI sum))) ∧ (¬ ((μ t 1) ≤ a) → isC t 7 ∧ inA (t + 3) 0 a ∧ r32 (μ (t + 3) a) ∧ (((μ (t + 3) a) ≤ 0) → V_X7_meanOf R 4 [(0, kR t), (1, kI w), (2, kI sum), (3, kI (a + 1))] μ) ∧ (¬ ((μ (t + 3) a) ≤ 0) → isC t 7 ∧ P_X7_foundBy t w a μ ∧ (r32 (F_X7_foundBy t w a μ) ∧ r32 (-1 : Int)) ∧ ((¬ (F_X7_foundBy t w a μ) = (-1 : Int)) → isC t 7 ∧ inA (t + 3) 0 a ∧ V_X7_meanOf R 4 [(0, kR t), (1, kI w), (2, kI (sum + ((μ (t + 3) a) * (F_X7_foundBy t w a μ)))), (3, kI (a + 1))] μ) ∧ (¬ (¬ (F_X7_foundBy t w a μ) = (-1 : Int)) → R μ (some (kI (-1))))))
  exact ⟨isT_C ht, ⟨⟨H.1, H.2.1⟩, fun hc3 => (H.2.2.1 hc3), fun hc3 => ⟨isT_C ht, ⟨isArr.in (T_chance ht) (H.2.2.2 hc3).1.1 (H.2.2.2 hc3).1.2, ⟨(H.2.2.2 hc3).2.1, fun hc2 => ((H.2.2.2 hc3).2.2.1 hc2), fun hc2 => ⟨isT_C ht, ((H.2.2.2 hc3).2.2.2 hc2).1, ⟨⟨((H.2.2.2 hc3).2.2.2 hc2).2.1, by unfold r32; omega⟩, fun hc1 => ⟨isT_C ht, ⟨isArr.in (T_chance ht) (((H.2.2.2 hc3).2.2.2 hc2).2.2.1 hc1).1.1 (((H.2.2.2 hc3).2.2.2 hc2).2.2.1 hc1).1.2, (((H.2.2.2 hc3).2.2.2 hc2).2.2.1 hc1).2⟩⟩, fun hc1 => (((H.2.2.2 hc3).2.2.2 hc2).2.2.2 hc1)⟩⟩⟩⟩⟩⟩⟩
theorem body_X7_meanOf {t w : Int} {μ : Mem} {R : Mem → Option AV → Prop} (h : P_X7_meanOf t w μ) (hR : R μ (some (kI (F_X7_meanOf t w μ)))) : V_X7_meanOf R 0 [(0, kR t), (1, kI w)] μ := by
  obtain ⟨⟨ht, ok⟩, hw, hw1⟩ := h
  have hp : 2 ≤ μ t 1 ∧ μ t 1 ≤ 8 := ok.1
  refine vc_X7_meanOf_0 ht ?_
  refine up_ind (P := fun a => allFoundV (tv μ t) w a = true → V_X7_meanOf R 4 [(0, kR t), (1, kI w), (2, kI (meanSum (tv μ t) w a)), (3, kI a)] μ) (lo := 0) (hi := μ t 1) ?_ ?_ 0 (by omega) (by omega) rfl
  · intro a a0 a1 ih hall
    have e : allFoundV (tv μ t) w (a + 1) = (allFoundV (tv μ t) w a && decide (tv μ t 4 a ≤ 0 ∨ foundV (tv μ t) w a ≠ -1)) := allV_s a0
    have es : meanSum (tv μ t) w (a + 1) = meanSum (tv μ t) w a + (if tv μ t 4 a ≤ 0 then 0 else tv μ t 4 a * foundV (tv μ t) w a) := sm_s a0
    have hc := (ok.2.2.2.1 a a0 (by omega)).1
    have hf := foundV_bd (p := a) ok hw hw1.1 hw1.2
    rw [hall, Bool.true_and] at e
    rw [es] at ih
    refine vc_X7_meanOf_4 ht ⟨rr (by omega), rr (by omega), fun c => absurd c (by omega), fun _ => ⟨⟨a0, by omega⟩, ?_⟩⟩
    rw [e4 μ t a0 (by omega)]
    unfold F_X7_foundBy
    refine ⟨rr (by omega), fun c => ?_, fun c => ⟨⟨⟨ht, ok⟩, hw, hw1, rr (by omega)⟩, rr (by omega), fun c2 => ⟨⟨a0, by omega⟩, ?_⟩, fun c2 => r_eq hR ?_⟩⟩
    · rw [if_pos c, Int.add_zero] at ih
      exact ih (by rw [e]; exact decide_eq_true (Or.inl c))
    · rw [if_neg c] at ih
      exact ih (by rw [e]; exact decide_eq_true (Or.inr c2))
    · unfold F_X7_meanOf meanV
      rw [if_neg]
      intro q
      unfold allFoundV at q
      rw [allV_ok (by show 0 ≤ μ t 1; omega)] at q
      have := of_decide_eq_true (q a a0 a1)
      omega
  · intro hall
    refine vc_X7_meanOf_4 ht ⟨rr (by omega), rr (by omega), fun _ => r_eq hR ?_, fun c => absurd (Int.le_refl _) c⟩
    unfold F_X7_meanOf meanV
    have : tv μ t 0 0 = μ t 1 := rfl
    rw [this, if_pos hall]
theorem ct_X7_meanOf : Ct mX7_meanOf 1 26 0 0 (nrmS S_X7_meanOf) := by
  refine ct_vm (own := RX7) (by decide +kernel) rfl ?_ ?_
  · intro as μ Q hS
    unfold S_X7_meanOf at hS
    split at hS
    · exact Nat.le_of_ble_eq_true rfl
    · exact hS.elim
  · intro as μ R hS
    unfold S_X7_meanOf at hS
    split at hS
    · exact body_X7_meanOf hS.1 hS.2
    · exact hS.elim
def weighedV (v : TV) (p : Int) : Int := sm (fun w => v 10 w * (if foundV v w p = -1 then 999 else foundV v w p)) (v 8 0)
theorem weighedV_bd {μ : Mem} {t p : Int} (ok : TVok (tv μ t)) (hw : WY μ t) : 0 ≤ weighedV (tv μ t) p ∧ weighedV (tv μ t) p ≤ 1774080 := by
  have h8 : 0 ≤ tv μ t 8 0 ∧ tv μ t 8 0 ≤ 8 := ok.2.2.2.2.2.2.2.1
  have h := sm_bd (f := fun w => tv μ t 10 w * (if foundV (tv μ t) w p = -1 then 999 else foundV (tv μ t) w p)) (n := tv μ t 8 0) (c := 0) (d := 221760) (fun w w0 w1 => by
    have hf := foundV_bd (p := p) ok hw w0 w1
    have h9 := (ok.2.2.2.2.2.2.2.2.1 w w0 w1).2.1
    have := mul_bd (b := if foundV (tv μ t) w p = -1 then 999 else foundV (tv μ t) w p) (B := 2240) h9.1 h9.2 (by omega) (by omega)
    omega) h8.1
  unfold weighedV
  omega
def P_X7_weighedFound (t p : Int) (μ : Mem) : Prop := TB μ t ∧ WY μ t ∧ r32 p
def F_X7_weighedFound (t p : Int) (μ : Mem) : Int := weighedV (tv μ t) p
def S_X7_weighedFound : S0t := fun as μ Q => match as with
  | [(2, x0), (0, x1)] => P_X7_weighedFound x0 x1 μ ∧ Q μ (some (kI (F_X7_weighedFound x0 x1 μ)))
  | _ => False
theorem mono_X7_weighedFound : Mono S_X7_weighedFound := by
  intro as μ Q Q' h hS
  unfold S_X7_weighedFound at hS ⊢
  split at hS
  · exact ⟨hS.1, h _ _ hS.2⟩
  · exact hS.elim
def iX7_weighedFound : Inf := (kX7_weighedFound, fTX7, pTX7, cTX7, lTX7, sTX7, [(97, 0, 2, 7, S_X7_foundBy)])
theorem ok_X7_weighedFound : infOK iX7_weighedFound mX7_weighedFound RX7 1 26 := ⟨kkX7_weighedFound, fTX7_ok, pTX7_ok _, cTX7_ok, lTX7_ok, sTX7_ok, c_cons ⟨mX7_foundBy, 0, 0, ct_X7_foundBy, mmX7_foundBy, vvX7_foundBy, lkX7_97, ⟨by decide, by decide⟩, ⟨_, _, rfl⟩, by decide, mono_X7_foundBy⟩ (c_nil)⟩
theorem mt_X7_weighedFound : mtOK [] RX7 1 26 := mt_nil
abbrev V_X7_weighedFound (R : Mem → Option AV → Prop) (pc : Nat) (lc : List (Nat × AV)) (μ : Mem) : Prop := VM mX7_weighedFound RX7 1 26 R pc lc [] μ
set_option maxRecDepth 20000 in
theorem vc_X7_weighedFound_0 {R : Mem → Option AV → Prop} {p t : Int} {μ : Mem} (ht : isT t) (H : V_X7_weighedFound R 4 [(0, kR t), (1, kI p), (2, kI 0), (3, kI 0)] μ) : V_X7_weighedFound R 0 [(0, kR t), (1, kI p)] μ := by
  refine vm_step2 mt_X7_weighedFound ok_X7_weighedFound [(4, [0, 1, 2, 3])] 1000 ?_
  show V_X7_weighedFound R 4 [(0, kR t), (1, kI p), (2, kI 0), (3, kI 0)] μ
  exact H
set_option maxRecDepth 20000 in
theorem vc_X7_weighedFound_4 {R : Mem → Option AV → Prop} {p sum w t : Int} {μ : Mem} (ht : isT t) (H : r32 w ∧ r32 (μ t 12) ∧ (((μ t 12) ≤ w) → R μ (some (kI sum))) ∧ (¬ ((μ t 12) ≤ w) → P_X7_foundBy t w p μ ∧ (0 ≤ w ∧ w < 8) ∧ r32 (F_X7_foundBy t w p μ) ∧ ((¬ (F_X7_foundBy t w p μ) = (-1 : Int)) → V_X7_weighedFound R 4 [(0, kR t), (1, kI p), (2, kI (sum + ((μ (t + 8) w) * (F_X7_foundBy t w p μ)))), (3, kI (w + 1))] μ) ∧ (¬ (¬ (F_X7_foundBy t w p μ) = (-1 : Int)) → V_X7_weighedFound R 4 [(0, kR t), (1, kI p), (2, kI (sum + ((μ (t + 8) w) * 999))), (3, kI (w + 1))] μ))) : V_X7_weighedFound R 4 [(0, kR t), (1, kI p), (2, kI sum), (3, kI w)] μ := by
  refine vm_step2 mt_X7_weighedFound ok_X7_weighedFound [(4, [0, 1, 2, 3])] 1000 ?_
  show isC t 7 ∧ (r32 w ∧ r32 (μ t 12)) ∧ (((μ t 12) ≤ w) → R μ (some (kI sum))) ∧ (¬ ((μ t 12) ≤ w) → isC t 7 ∧ P_X7_foundBy t w p μ ∧ isC t 7 ∧ inA (t + 8) 0 w ∧ (r32 (F_X7_foundBy t w p μ) ∧ r32 (-1 : Int)) ∧ ((¬ (F_X7_foundBy t w p μ) = (-1 : Int)) → V_X7_weighedFound R 4 [(0, kR t), (1, kI p), (2, kI (sum + ((μ (t + 8) w) * (F_X7_foundBy t w p μ)))), (3, kI (w + 1))] μ) ∧ (¬ (¬ (F_X7_foundBy t w p μ) = (-1 : Int)) → V_X7_weighedFound R 4 [(0, kR t), (1, kI p), (2, kI (sum + ((μ (t + 8) w) * 999))), (3, kI (w + 1))] μ))
  exact ⟨isT_C ht, ⟨⟨H.1, H.2.1⟩, fun hc2 => (H.2.2.1 hc2), fun hc2 => ⟨isT_C ht, (H.2.2.2 hc2).1, ⟨isT_C ht, ⟨isArr.in (T_weight ht) (H.2.2.2 hc2).2.1.1 (H.2.2.2 hc2).2.1.2, ⟨⟨(H.2.2.2 hc2).2.2.1, by unfold r32; omega⟩, fun hc1 => ((H.2.2.2 hc2).2.2.2.1 hc1), fun hc1 => ((H.2.2.2 hc2).2.2.2.2 hc1)⟩⟩⟩⟩⟩⟩
theorem body_X7_weighedFound {t p : Int} {μ : Mem} {R : Mem → Option AV → Prop} (h : P_X7_weighedFound t p μ) (hR : R μ (some (kI (F_X7_weighedFound t p μ)))) : V_X7_weighedFound R 0 [(0, kR t), (1, kI p)] μ := by
  obtain ⟨⟨ht, ok⟩, hw, hpr⟩ := h
  have h8 : 0 ≤ μ t 12 ∧ μ t 12 ≤ 8 := ok.2.2.2.2.2.2.2.1
  refine vc_X7_weighedFound_0 ht ?_
  refine up_ind (P := fun w => V_X7_weighedFound R 4 [(0, kR t), (1, kI p), (2, kI (sm (fun w => tv μ t 10 w * (if foundV (tv μ t) w p = -1 then 999 else foundV (tv μ t) w p)) w)), (3, kI w)] μ) (lo := 0) (hi := μ t 12) ?_ ?_ 0 (by omega) (by omega)
  · intro w w0 w1 ih
    rw [sm_s w0] at ih
    have hf := foundV_bd (p := p) ok hw w0 w1
    refine vc_X7_weighedFound_4 ht ⟨rr (by omega), rr (by omega), fun c => absurd c (by omega), fun _ => ⟨⟨⟨ht, ok⟩, hw, ⟨w0, w1⟩, hpr⟩, ⟨w0, by omega⟩, ?_⟩⟩
    unfold F_X7_foundBy
    rw [e10 μ t w0 w1]
    refine ⟨rr (by omega), fun c => ?_, fun c => ?_⟩
    · rw [if_neg c] at ih; exact ih
    · rw [if_pos (by omega)] at ih; exact ih
  · exact vc_X7_weighedFound_4 ht ⟨rr (by omega), rr (by omega), fun _ => hR, fun c => absurd (Int.le_refl _) c⟩
theorem ct_X7_weighedFound : Ct mX7_weighedFound 1 26 0 0 (nrmS S_X7_weighedFound) := by
  refine ct_vm (own := RX7) (by decide +kernel) rfl ?_ ?_
  · intro as μ Q hS
    unfold S_X7_weighedFound at hS
    split at hS
    · exact Nat.le_of_ble_eq_true rfl
    · exact hS.elim
  · intro as μ R hS
    unfold S_X7_weighedFound at hS
    split at hS
    · exact body_X7_weighedFound hS.1 hS.2
    · exact hS.elim
/-- WHERE: the first of the cellars that are found latest by weights, or -1; and how late -/
def lastP (v : TV) (n : Int) : Int × Int := fold (fun x a => if x.2 < (if v 4 a ≤ 0 then -1 else weighedV v a) then (a, if v 4 a ≤ 0 then -1 else weighedV v a) else x) (-1, -1) n
def whereV (v : TV) : Int := if sm (v 10) (v 8 0) ≤ 0 then -1 else (lastP v (v 0 0)).1
theorem lastP_s {v : TV} {a : Int} (h : 0 ≤ a) : lastP v (a + 1) = if (lastP v a).2 < (if v 4 a ≤ 0 then -1 else weighedV v a) then (a, if v 4 a ≤ 0 then -1 else weighedV v a) else lastP v a := fold_s h
def P_X7_cellarFoundLast (t : Int) (μ : Mem) : Prop := TB μ t ∧ WY μ t
def F_X7_cellarFoundLast (t : Int) (μ : Mem) : Int := whereV (tv μ t)
def S_X7_cellarFoundLast : S0t := fun as μ Q => match as with
  | [(2, x0)] => P_X7_cellarFoundLast x0 μ ∧ Q μ (some (kI (F_X7_cellarFoundLast x0 μ)))
  | _ => False
theorem mono_X7_cellarFoundLast : Mono S_X7_cellarFoundLast := by
  intro as μ Q Q' h hS
  unfold S_X7_cellarFoundLast at hS ⊢
  split at hS
  · exact ⟨hS.1, h _ _ hS.2⟩
  · exact hS.elim
def iX7_cellarFoundLast : Inf := (kX7_cellarFoundLast, fTX7, pTX7, cTX7, lTX7, sTX7, [(100, 0, 1, 7, S_X7_weighedFound)])
theorem ok_X7_cellarFoundLast : infOK iX7_cellarFoundLast mX7_cellarFoundLast RX7 2 50 := ⟨kkX7_cellarFoundLast, fTX7_ok, pTX7_ok _, cTX7_ok, lTX7_ok, sTX7_ok, c_cons ⟨mX7_weighedFound, 1, 26, ct_X7_weighedFound, mmX7_weighedFound, vvX7_weighedFound, lkX7_100, ⟨by decide, by decide⟩, ⟨_, _, rfl⟩, by decide, mono_X7_weighedFound⟩ (c_nil)⟩
theorem mt_X7_cellarFoundLast : mtOK [] RX7 2 50 := mt_nil
abbrev V_X7_cellarFoundLast (R : Mem → Option AV → Prop) (pc : Nat) (lc : List (Nat × AV)) (μ : Mem) : Prop := VM mX7_cellarFoundLast RX7 2 50 R pc lc [] μ
set_option maxRecDepth 20000 in
theorem vc_X7_cellarFoundLast_0 {R : Mem → Option AV → Prop} {t : Int} {μ : Mem} (ht : isT t) (H : V_X7_cellarFoundLast R 4 [(0, kR t), (1, kI 0), (2, kI 0)] μ) : V_X7_cellarFoundLast R 0 [(0, kR t)] μ := by
  refine vm_step2 mt_X7_cellarFoundLast ok_X7_cellarFoundLast [(4, [0, 1, 2]), (34, [0, 1, 2, 3, 4])] 1000 ?_
  show V_X7_cellarFoundLast R 4 [(0, kR t), (1, kI 0), (2, kI 0)] μ
  exact H
set_option maxRecDepth 20000 in
theorem vc_X7_cellarFoundLast_4 {R : Mem → Option AV → Prop} {ws w t : Int} {μ : Mem} (ht : isT t) (H : r32 w ∧ r32 (μ t 12) ∧ (((μ t 12) ≤ w) → V_X7_cellarFoundLast R 34 [(0, kR t), (1, kI ws), (2, kI (-1)), (3, kI (-1)), (4, kI 0)] μ) ∧ (¬ ((μ t 12) ≤ w) → (0 ≤ w ∧ w < 8) ∧ V_X7_cellarFoundLast R 4 [(0, kR t), (1, kI (ws + (μ (t + 8) w))), (2, kI (w + 1))] μ)) : V_X7_cellarFoundLast R 4 [(0, kR t), (1, kI ws), (2, kI w)] μ := by
  refine vm_step2 mt_X7_cellarFoundLast ok_X7_cellarFoundLast [(4, [0, 1, 2]), (34, [0, 1, 2, 3, 4])] 1000 ?_
  show isC t 7 ∧ (r32 w ∧ r32 (μ t 12)) ∧ (((μ t 12) ≤ w) → V_X7_cellarFoundLast R 34 [(0, kR t), (1, kI ws), (2, kI (-1)), (3, kI (-1)), (4, kI 0)] μ) ∧ (¬ ((μ t 12) ≤ w) → isC t 7 ∧ inA (t + 8) 0 w ∧ V_X7_cellarFoundLast R 4 [(0, kR t), (1, kI (ws + (μ (t + 8) w))), (2, kI (w + 1))] μ)
  exact ⟨isT_C ht, ⟨⟨H.1, H.2.1⟩, fun hc1 => (H.2.2.1 hc1), fun hc1 => ⟨isT_C ht, ⟨isArr.in (T_weight ht) (H.2.2.2 hc1).1.1 (H.2.2.2 hc1).1.2, (H.2.2.2 hc1).2⟩⟩⟩⟩
set_option maxRecDepth 20000 in
theorem vc_X7_cellarFoundLast_34 {R : Mem → Option AV → Prop} {ws w mo a t : Int} {μ : Mem} (ht : isT t) (H : r32 a ∧ r32 (μ t 1) ∧ (((μ t 1) ≤ a) → R μ (some (kI w))) ∧ (¬ ((μ t 1) ≤ a) → r32 ws ∧ ((ws ≤ 0) → R μ (some (kI w))) ∧ (¬ (ws ≤ 0) → (0 ≤ a ∧ a < 8) ∧ r32 (μ (t + 3) a) ∧ (((μ (t + 3) a) ≤ 0) → r32 mo ∧ (((-1 : Int) ≤ mo) → V_X7_cellarFoundLast R 34 [(0, kR t), (1, kI ws), (2, kI w), (3, kI mo), (4, kI (a + 1))] μ) ∧ (¬ ((-1 : Int) ≤ mo) → V_X7_cellarFoundLast R 34 [(0, kR t), (1, kI ws), (2, kI a), (3, kI (-1)), (4, kI (a + 1))] μ)) ∧ (¬ ((μ (t + 3) a) ≤ 0) → P_X7_weighedFound t a μ ∧ r32 (F_X7_weighedFound t a μ) ∧ r32 mo ∧ (((F_X7_weighedFound t a μ) ≤ mo) → V_X7_cellarFoundLast R 34 [(0, kR t), (1, kI ws), (2, kI w), (3, kI mo), (4, kI (a + 1))] μ) ∧ (¬ ((F_X7_weighedFound t a μ) ≤ mo) → V_X7_cellarFoundLast R 34 [(0, kR t), (1, kI ws), (2, kI a), (3, kI (F_X7_weighedFound t a μ)), (4, kI (a + 1))] μ))))) : V_X7_cellarFoundLast R 34 [(0, kR t), (1, kI ws), (2, kI w), (3, kI mo), (4, kI a)] μ := by
  refine vm_step2 mt_X7_cellarFoundLast ok_X7_cellarFoundLast [(4, [0, 1, 2]), (34, [0, 1, 2, 3, 4])] 1000 ?_
  show isC t 7 ∧ (r32 a ∧ r32 (μ t 1)) ∧ (((μ t 1) ≤ a) → R μ (some (kI w))) ∧ (¬ ((μ t 1) ≤ a) → r32 ws ∧ ((ws ≤ 0) → R μ (some (kI w))) ∧ (¬ (ws ≤ 0) → isC t 7 ∧ inA (t + 3) 0 a ∧ r32 (μ (t + 3) a) ∧ (((μ (t + 3) a) ≤ 0) → (r32 (-1 : Int) ∧ r32 mo) ∧ (((-1 : Int) ≤ mo) → V_X7_cellarFoundLast R 34 [(0, kR t), (1, kI ws), (2, kI w), (3, kI mo), (4, kI (a + 1))] μ) ∧ (¬ ((-1 : Int) ≤ mo) → V_X7_cellarFoundLast R 34 [(0, kR t), (1, kI ws), (2, kI a), (3, kI (-1)), (4, kI (a + 1))] μ)) ∧ (¬ ((μ (t + 3) a) ≤ 0) → isC t 7 ∧ P_X7_weighedFound t a μ ∧ (r32 (F_X7_weighedFound t a μ) ∧ r32 mo) ∧ (((F_X7_weighedFound t a μ) ≤ mo) → V_X7_cellarFoundLast R 34 [(0, kR t), (1, kI ws), (2, kI w), (3, kI mo), (4, kI (a + 1))] μ) ∧ (¬ ((F_X7_weighedFound t a μ) ≤ mo) → V_X7_cellarFoundLast R 34 [(0, kR t), (1, kI ws), (2, kI a), (3, kI (F_X7_weighedFound t a μ)), (4, kI (a + 1))] μ))))
  exact ⟨isT_C ht, ⟨⟨H.1, H.2.1⟩, fun hc6 => (H.2.2.1 hc6), fun hc6 => ⟨(H.2.2.2 hc6).1, fun hc5 => ((H.2.2.2 hc6).2.1 hc5), fun hc5 => ⟨isT_C ht, ⟨isArr.in (T_chance ht) ((H.2.2.2 hc6).2.2 hc5).1.1 ((H.2.2.2 hc6).2.2 hc5).1.2, ⟨((H.2.2.2 hc6).2.2 hc5).2.1, fun hc4 => ⟨⟨by unfold r32; omega, (((H.2.2.2 hc6).2.2 hc5).2.2.1 hc4).1⟩, fun hc2 => ((((H.2.2.2 hc6).2.2 hc5).2.2.1 hc4).2.1 hc2), fun hc2 => ((((H.2.2.2 hc6).2.2 hc5).2.2.1 hc4).2.2 hc2)⟩, fun hc4 => ⟨isT_C ht, (((H.2.2.2 hc6).2.2 hc5).2.2.2 hc4).1, ⟨⟨(((H.2.2.2 hc6).2.2 hc5).2.2.2 hc4).2.1, (((H.2.2.2 hc6).2.2 hc5).2.2.2 hc4).2.2.1⟩, fun hc3 => ((((H.2.2.2 hc6).2.2 hc5).2.2.2 hc4).2.2.2.1 hc3), fun hc3 => ((((H.2.2.2 hc6).2.2 hc5).2.2.2 hc4).2.2.2.2 hc3)⟩⟩⟩⟩⟩⟩⟩⟩
theorem body_X7_cellarFoundLast {t : Int} {μ : Mem} {R : Mem → Option AV → Prop} (h : P_X7_cellarFoundLast t μ) (hR : R μ (some (kI (F_X7_cellarFoundLast t μ)))) : V_X7_cellarFoundLast R 0 [(0, kR t)] μ := by
  obtain ⟨⟨ht, ok⟩, hw⟩ := h
  have h8 : 0 ≤ μ t 12 ∧ μ t 12 ≤ 8 := ok.2.2.2.2.2.2.2.1
  have hp : 2 ≤ μ t 1 ∧ μ t 1 ≤ 8 := ok.1
  refine vc_X7_cellarFoundLast_0 ht ?_
  refine up_ind (P := fun w => V_X7_cellarFoundLast R 4 [(0, kR t), (1, kI (sm (tv μ t 10) w)), (2, kI w)] μ) (lo := 0) (hi := μ t 12) ?_ ?_ 0 (by omega) (by omega)
  · intro w w0 w1 ih
    rw [sm_s w0] at ih
    refine vc_X7_cellarFoundLast_4 ht ⟨rr (by omega), rr (by omega), fun c => absurd c (by omega), fun _ => ⟨⟨w0, by omega⟩, ?_⟩⟩
    rw [e10 μ t w0 w1]
    exact ih
  · refine vc_X7_cellarFoundLast_4 ht ⟨rr (by omega), rr (by omega), fun _ => ?_, fun c => absurd (Int.le_refl _) c⟩
    have hs := sm_bd (f := tv μ t 10) (n := μ t 12) (c := 0) (d := 99) (fun w w0 w1 => (ok.2.2.2.2.2.2.2.2.1 w w0 w1).2.1) h8.1
    have hF : F_X7_cellarFoundLast t μ = if sm (tv μ t 10) (μ t 12) ≤ 0 then -1 else (lastP (tv μ t) (μ t 1)).1 := rfl
    rw [hF] at hR
    generalize sm (tv μ t 10) (μ t 12) = ws at hs hR ⊢
    refine up_ind (P := fun a => -1 ≤ (lastP (tv μ t) a).2 ∧ (lastP (tv μ t) a).2 ≤ 1774080 → (ws ≤ 0 → a = 0) → V_X7_cellarFoundLast R 34 [(0, kR t), (1, kI ws), (2, kI (lastP (tv μ t) a).1), (3, kI (lastP (tv μ t) a).2), (4, kI a)] μ) (lo := 0) (hi := μ t 1) ?_ ?_ 0 (by omega) (by omega) (by show -1 ≤ (-1 : Int) ∧ (-1 : Int) ≤ 1774080; omega) (fun _ => rfl)
    · intro a a0 a1 ih hb hz
      have hc := (ok.2.2.2.1 a a0 (by omega)).1
      have hwv := weighedV_bd (p := a) ok hw
      have e := lastP_s (v := tv μ t) a0
      rw [e] at ih
      refine vc_X7_cellarFoundLast_34 ht ⟨rr (by omega), rr (by omega), fun c => absurd c (by omega), fun _ => ⟨rr (by omega), fun c => r_eq hR ?_, fun c => ⟨⟨a0, by omega⟩, ?_⟩⟩⟩
      · rw [if_pos c, hz c]; rfl
      · rw [e4 μ t a0 (by omega)]
        refine ⟨rr (by omega), fun c2 => ⟨rr (by omega), fun c3 => ?_, fun c3 => absurd hb.1 c3⟩, fun c2 => ⟨⟨⟨ht, ok⟩, hw, rr (by omega)⟩, ?_⟩⟩
        · rw [if_pos c2, if_neg (by omega)] at ih
          exact ih hb (fun q => absurd q c)
        · unfold F_X7_weighedFound
          rw [if_neg c2] at ih
          refine ⟨rr (by omega), rr (by omega), fun c3 => ?_, fun c3 => ?_⟩
          · rw [if_neg (by omega)] at ih
            exact ih hb (fun q => absurd q c)
          · rw [if_pos (by omega)] at ih
            exact ih (by show -1 ≤ weighedV (tv μ t) a ∧ weighedV (tv μ t) a ≤ 1774080; omega) (fun q => absurd q c)
    · intro hb hz
      refine vc_X7_cellarFoundLast_34 ht ⟨rr (by omega), rr (by omega), fun _ => r_eq hR ?_, fun c => absurd (Int.le_refl _) c⟩
      by_cases c : ws ≤ 0
      · rw [if_pos c, hz c]; rfl
      · rw [if_neg c]
theorem ct_X7_cellarFoundLast : Ct mX7_cellarFoundLast 2 50 0 0 (nrmS S_X7_cellarFoundLast) := by
  refine ct_vm (own := RX7) (by decide +kernel) rfl ?_ ?_
  · intro as μ Q hS
    unfold S_X7_cellarFoundLast at hS
    split at hS
    · exact Nat.le_of_ble_eq_true rfl
    · exact hS.elim
  · intro as μ R hS
    unfold S_X7_cellarFoundLast at hS
    split at hS
    · exact body_X7_cellarFoundLast hS.1 hS.2
    · exact hS.elim
/-- a box that half shows: the parts that are right -/
def inV (h set a : Int) : Int := if hasB set a = true then h else 12 - h
def rightV (v : TV) (h set : Int) : Int := fold (fun m a => max m (v 4 a * inV h set a)) 0 (v 0 0) + fold (fun m a => max m (v 4 a * (12 - inV h set a))) 0 (v 0 0)
def P_X7_rightBy (t h set : Int) (μ : Mem) : Prop := TB μ t ∧ (0 ≤ h ∧ h ≤ 12) ∧ (0 ≤ set ∧ set < 256)
def F_X7_rightBy (t h set : Int) (μ : Mem) : Int := rightV (tv μ t) h set
def S_X7_rightBy : S0t := fun as μ Q => match as with
  | [(2, x0), (0, x1), (0, x2)] => P_X7_rightBy x0 x1 x2 μ ∧ Q μ (some (kI (F_X7_rightBy x0 x1 x2 μ)))
  | _ => False
theorem mono_X7_rightBy : Mono S_X7_rightBy := by
  intro as μ Q Q' h hS
  unfold S_X7_rightBy at hS ⊢
  split at hS
  · exact ⟨hS.1, h _ _ hS.2⟩
  · exact hS.elim
def iX7_rightBy : Inf := (kX7_rightBy, fTX7, pTX7, cTX7, lTX7, sTX7, [(103, 1, 2, 0, S_X10_isIn)])
theorem ok_X7_rightBy : infOK iX7_rightBy mX7_rightBy RX7 1 21 := ⟨kkX7_rightBy, fTX7_ok, pTX7_ok _, cTX7_ok, lTX7_ok, sTX7_ok, c_cons ⟨mX10_isIn, 0, 0, ct_X10_isIn, mmX10_isIn, stX10_isIn, lkX7_103, ⟨by decide, by decide⟩, mono_X10_isIn⟩ (c_nil)⟩
theorem mt_X7_rightBy : mtOK [(106, 1)] RX7 1 21 := mt_cons ⟨MI0, by decide, by decide, ML_X7_106, MS1, MC1⟩ (mt_nil)
abbrev V_X7_rightBy (R : Mem → Option AV → Prop) (pc : Nat) (lc : List (Nat × AV)) (μ : Mem) : Prop := VM mX7_rightBy RX7 1 21 R pc lc [] μ
set_option maxRecDepth 20000 in
theorem vc_X7_rightBy_0 {R : Mem → Option AV → Prop} {h set t : Int} {μ : Mem} (ht : isT t) (H : V_X7_rightBy R 8 [(0, kR t), (1, kI h), (2, kI set), (3, kI 0), (4, kI 0), (5, kI 0)] μ) : V_X7_rightBy R 0 [(0, kR t), (1, kI h), (2, kI set)] μ := by
  refine vm_step2 mt_X7_rightBy ok_X7_rightBy [(8, [0, 1, 2, 3, 4, 5])] 1000 ?_
  show V_X7_rightBy R 8 [(0, kR t), (1, kI h), (2, kI set), (3, kI 0), (4, kI 0), (5, kI 0)] μ
  exact H
set_option maxRecDepth 20000 in
theorem vc_X7_rightBy_8 {R : Mem → Option AV → Prop} {h set si sn a t : Int} {μ : Mem} (ht : isT t) (H : r32 a ∧ r32 (μ t 1) ∧ (((μ t 1) ≤ a) → R μ (some (kI (si + sn)))) ∧ (¬ ((μ t 1) ≤ a) → P_X10_isIn set a μ ∧ r32 (F_X10_isIn set a μ) ∧ (((F_X10_isIn set a μ) = 0) → (0 ≤ a ∧ a < 8) ∧ r32 si ∧ r32 ((μ (t + 3) a) * (12 - h)) ∧ (0 ≤ a ∧ a < 8) ∧ r32 sn ∧ r32 ((μ (t + 3) a) * (12 - (12 - h))) ∧ V_X7_rightBy R 8 [(0, kR t), (1, kI h), (2, kI set), (3, kI (max si ((μ (t + 3) a) * (12 - h)))), (4, kI (max sn ((μ (t + 3) a) * (12 - (12 - h))))), (5, kI (a + 1))] μ) ∧ (¬ ((F_X10_isIn set a μ) = 0) → (0 ≤ a ∧ a < 8) ∧ r32 si ∧ r32 ((μ (t + 3) a) * h) ∧ (0 ≤ a ∧ a < 8) ∧ r32 sn ∧ r32 ((μ (t + 3) a) * (12 - h)) ∧ V_X7_rightBy R 8 [(0, kR t), (1, kI h), (2, kI set), (3, kI (max si ((μ (t + 3) a) * h))), (4, kI (max sn ((μ (t + 3) a) * (12 - h)))), (5, kI (a + 1))] μ))) : V_X7_rightBy R 8 [(0, kR t), (1, kI h), (2, kI set), (3, kI si), (4, kI sn), (5, kI a)] μ := by
  refine vm_step2 mt_X7_rightBy ok_X7_rightBy [(8, [0, 1, 2, 3, 4, 5])] 1000 ?_
  show isC t 7 ∧ (r32 a ∧ r32 (μ t 1)) ∧ (((μ t 1) ≤ a) → R μ (some (kI (si + sn)))) ∧ (¬ ((μ t 1) ≤ a) → P_X10_isIn set a μ ∧ r32 (F_X10_isIn set a μ) ∧ (((F_X10_isIn set a μ) = 0) → isC t 7 ∧ inA (t + 3) 0 a ∧ (r32 si ∧ r32 ((μ (t + 3) a) * (12 - h))) ∧ isC t 7 ∧ inA (t + 3) 0 a ∧ (r32 sn ∧ r32 ((μ (t + 3) a) * (12 - (12 - h)))) ∧ V_X7_rightBy R 8 [(0, kR t), (1, kI h), (2, kI set), (3, kI (max si ((μ (t + 3) a) * (12 - h)))), (4, kI (max sn ((μ (t + 3) a) * (12 - (12 - h))))), (5, kI (a + 1))] μ) ∧ (¬ ((F_X10_isIn set a μ) = 0) → isC t 7 ∧ inA (t + 3) 0 a ∧ (r32 si ∧ r32 ((μ (t + 3) a) * h)) ∧ isC t 7 ∧ inA (t + 3) 0 a ∧ (r32 sn ∧ r32 ((μ (t + 3) a) * (12 - h))) ∧ V_X7_rightBy R 8 [(0, kR t), (1, kI h), (2, kI set), (3, kI (max si ((μ (t + 3) a) * h))), (4, kI (max sn ((μ (t + 3) a) * (12 - h)))), (5, kI (a + 1))] μ))
  exact ⟨isT_C ht, ⟨⟨H.1, H.2.1⟩, fun hc2 => (H.2.2.1 hc2), fun hc2 => ⟨(H.2.2.2 hc2).1, ⟨(H.2.2.2 hc2).2.1, fun hc1 => ⟨isT_C ht, ⟨isArr.in (T_chance ht) ((H.2.2.2 hc2).2.2.1 hc1).1.1 ((H.2.2.2 hc2).2.2.1 hc1).1.2, ⟨⟨((H.2.2.2 hc2).2.2.1 hc1).2.1, ((H.2.2.2 hc2).2.2.1 hc1).2.2.1⟩, ⟨isT_C ht, ⟨isArr.in (T_chance ht) ((H.2.2.2 hc2).2.2.1 hc1).2.2.2.1.1 ((H.2.2.2 hc2).2.2.1 hc1).2.2.2.1.2, ⟨⟨((H.2.2.2 hc2).2.2.1 hc1).2.2.2.2.1, ((H.2.2.2 hc2).2.2.1 hc1).2.2.2.2.2.1⟩, ((H.2.2.2 hc2).2.2.1 hc1).2.2.2.2.2.2⟩⟩⟩⟩⟩⟩, fun hc1 => ⟨isT_C ht, ⟨isArr.in (T_chance ht) ((H.2.2.2 hc2).2.2.2 hc1).1.1 ((H.2.2.2 hc2).2.2.2 hc1).1.2, ⟨⟨((H.2.2.2 hc2).2.2.2 hc1).2.1, ((H.2.2.2 hc2).2.2.2 hc1).2.2.1⟩, ⟨isT_C ht, ⟨isArr.in (T_chance ht) ((H.2.2.2 hc2).2.2.2 hc1).2.2.2.1.1 ((H.2.2.2 hc2).2.2.2 hc1).2.2.2.1.2, ⟨⟨((H.2.2.2 hc2).2.2.2 hc1).2.2.2.2.1, ((H.2.2.2 hc2).2.2.2 hc1).2.2.2.2.2.1⟩, ((H.2.2.2 hc2).2.2.2 hc1).2.2.2.2.2.2⟩⟩⟩⟩⟩⟩⟩⟩⟩⟩
theorem body_X7_rightBy {t h set : Int} {μ : Mem} {R : Mem → Option AV → Prop} (hP : P_X7_rightBy t h set μ) (hR : R μ (some (kI (F_X7_rightBy t h set μ)))) : V_X7_rightBy R 0 [(0, kR t), (1, kI h), (2, kI set)] μ := by
  obtain ⟨⟨ht, ok⟩, hh, hset⟩ := hP
  have hp : 2 ≤ μ t 1 ∧ μ t 1 ≤ 8 := ok.1
  refine vc_X7_rightBy_0 ht ?_
  have bd : ∀ (g : Int → Int), (∀ a, 0 ≤ g a ∧ g a ≤ 12) → ∀ a : Int, 0 ≤ a → a ≤ μ t 1 → 0 ≤ fold (fun m a => max m (tv μ t 4 a * g a)) 0 a ∧ fold (fun m a => max m (tv μ t 4 a * g a)) 0 a ≤ 1188 := by
    intro g hg a a0 a1
    refine fold_ind (P := fun _ m => 0 ≤ m ∧ m ≤ 1188) (by omega) (fun i m i0 i1 q => ?_) a0
    have hc := (ok.2.2.2.1 i i0 (by omega)).1
    have := mul_bd hc.1 hc.2 (hg i).1 (hg i).2
    omega
  have hin : ∀ a, 0 ≤ inV h set a ∧ inV h set a ≤ 12 := by
    intro a
    unfold inV
    by_cases hb : hasB set a = true
    · rw [if_pos hb]; omega
    · rw [if_neg hb]; omega
  refine up_ind (P := fun a => V_X7_rightBy R 8 [(0, kR t), (1, kI h), (2, kI set), (3, kI (fold (fun m a => max m (tv μ t 4 a * inV h set a)) 0 a)), (4, kI (fold (fun m a => max m (tv μ t 4 a * (12 - inV h set a))) 0 a)), (5, kI a)] μ) (lo := 0) (hi := μ t 1) ?_ ?_ 0 (by omega) (by omega)
  · intro a a0 a1 ih
    have b1 := bd (inV h set) hin a a0 (by omega)
    have b2 := bd (fun a => 12 - inV h set a) (fun a => by have := hin a; omega) a a0 (by omega)
    rw [fold_s a0, fold_s a0] at ih
    have hc := (ok.2.2.2.1 a a0 (by omega)).1
    have hi := hin a
    have m1 := mul_bd hc.1 hc.2 hi.1 hi.2
    have m2 := mul_bd (b := 12 - inV h set a) (B := 12) hc.1 hc.2 (by omega) (by omega)
    refine vc_X7_rightBy_8 ht ⟨rr (by omega), rr (by omega), fun c => absurd c (by omega), fun _ => ⟨⟨⟨by omega, by omega⟩, a0, by omega⟩, ?_⟩⟩
    rw [e4 μ t a0 (by omega)]
    unfold F_X10_isIn
    by_cases hb : hasB set a = true
    · have e : inV h set a = h := if_pos hb
      rw [e] at ih m1 m2
      rw [if_pos hb]
      exact ⟨rr (by omega), fun c => absurd c (by omega), fun _ => ⟨⟨a0, by omega⟩, rr (by omega), rr (by omega), ⟨a0, by omega⟩, rr (by omega), rr (by omega), ih⟩⟩
    · have e : inV h set a = 12 - h := if_neg hb
      rw [e] at ih m1 m2
      rw [if_neg hb]
      exact ⟨rr (by omega), fun _ => ⟨⟨a0, by omega⟩, rr (by omega), rr (by omega), ⟨a0, by omega⟩, rr (by omega), rr (by omega), ih⟩, fun c => absurd rfl c⟩
  · exact vc_X7_rightBy_8 ht ⟨rr (by omega), rr (by omega), fun _ => hR, fun c => absurd (Int.le_refl _) c⟩
theorem ct_X7_rightBy : Ct mX7_rightBy 1 21 0 0 (nrmS S_X7_rightBy) := by
  refine ct_vm (own := RX7) (by decide +kernel) rfl ?_ ?_
  · intro as μ Q hS
    unfold S_X7_rightBy at hS
    split at hS
    · exact Nat.le_of_ble_eq_true rfl
    · exact hS.elim
  · intro as μ R hS
    unfold S_X7_rightBy at hS
    split at hS
    · exact body_X7_rightBy hS.1 hS.2
    · exact hS.elim
/-- the first place at which the chances together are above k -/
def byNumV (v : TV) (k : Int) : Int := max 0 (frst (fun a => decide (k < sm (v 4) (a + 1))) (v 0 0))
def P_X7_cellarByNumber (t k : Int) (μ : Mem) : Prop := TB μ t ∧ r32 k ∧ 0 ≤ k ∧ (0 < μ t 3 ∧ μ t 3 ≤ 792)
def F_X7_cellarByNumber (t k : Int) (μ : Mem) : Int := byNumV (tv μ t) (k % μ t 3)
def S_X7_cellarByNumber : S0t := fun as μ Q => match as with
  | [(2, x0), (0, x1)] => P_X7_cellarByNumber x0 x1 μ ∧ Q μ (some (kI (F_X7_cellarByNumber x0 x1 μ)))
  | _ => False
theorem mono_X7_cellarByNumber : Mono S_X7_cellarByNumber := by
  intro as μ Q Q' h hS
  unfold S_X7_cellarByNumber at hS ⊢
  split at hS
  · exact ⟨hS.1, h _ _ hS.2⟩
  · exact hS.elim
def iX7_cellarByNumber : Inf := (kX7_cellarByNumber, fTX7, pTX7, cTX7, lTX7, sTX7, [])
theorem ok_X7_cellarByNumber : infOK iX7_cellarByNumber mX7_cellarByNumber RX7 0 0 := ⟨kkX7_cellarByNumber, fTX7_ok, pTX7_ok _, cTX7_ok, lTX7_ok, sTX7_ok, c_nil⟩
theorem mt_X7_cellarByNumber : mtOK [] RX7 0 0 := mt_nil
abbrev V_X7_cellarByNumber (R : Mem → Option AV → Prop) (pc : Nat) (lc : List (Nat × AV)) (μ : Mem) : Prop := VM mX7_cellarByNumber RX7 0 0 R pc lc [] μ
set_option maxRecDepth 20000 in
theorem vc_X7_cellarByNumber_0 {R : Mem → Option AV → Prop} {k t : Int} {μ : Mem} (ht : isT t) (H : r32 (μ t 3) ∧ (((μ t 3) ≤ 0) → V_X7_cellarByNumber R 20 [(0, kR t), (2, kI 0), (3, kI 0)] μ) ∧ (¬ ((μ t 3) ≤ 0) → (r32 k ∧ r32 (μ t 3) ∧ (μ t 3) ≠ 0) ∧ V_X7_cellarByNumber R 20 [(0, kR t), (2, kI (Int.tmod k (μ t 3))), (3, kI 0)] μ)) : V_X7_cellarByNumber R 0 [(0, kR t), (1, kI k)] μ := by
  refine vm_step2 mt_X7_cellarByNumber ok_X7_cellarByNumber [(20, [0, 2, 3])] 1000 ?_
  show isC t 7 ∧ r32 (μ t 3) ∧ (((μ t 3) ≤ 0) → V_X7_cellarByNumber R 20 [(0, kR t), (2, kI 0), (3, kI 0)] μ) ∧ (¬ ((μ t 3) ≤ 0) → isC t 7 ∧ (r32 k ∧ r32 (μ t 3) ∧ (μ t 3) ≠ 0) ∧ V_X7_cellarByNumber R 20 [(0, kR t), (2, kI (Int.tmod k (μ t 3))), (3, kI 0)] μ)
  exact ⟨isT_C ht, ⟨H.1, fun hc1 => (H.2.1 hc1), fun hc1 => ⟨isT_C ht, ⟨(H.2.2 hc1).1, (H.2.2 hc1).2⟩⟩⟩⟩
set_option maxRecDepth 20000 in
theorem vc_X7_cellarByNumber_20 {R : Mem → Option AV → Prop} {rest a t : Int} {μ : Mem} (ht : isT t) (H : r32 a ∧ r32 (μ t 1) ∧ (((μ t 1) ≤ a) → R μ (some (kI 0))) ∧ (¬ ((μ t 1) ≤ a) → (0 ≤ a ∧ a < 8) ∧ r32 (rest - (μ (t + 3) a)) ∧ ((0 ≤ (rest - (μ (t + 3) a))) → V_X7_cellarByNumber R 20 [(0, kR t), (2, kI (rest - (μ (t + 3) a))), (3, kI (a + 1))] μ) ∧ (¬ (0 ≤ (rest - (μ (t + 3) a))) → R μ (some (kI a))))) : V_X7_cellarByNumber R 20 [(0, kR t), (2, kI rest), (3, kI a)] μ := by
  refine vm_step2 mt_X7_cellarByNumber ok_X7_cellarByNumber [(20, [0, 2, 3])] 1000 ?_
  show isC t 7 ∧ (r32 a ∧ r32 (μ t 1)) ∧ (((μ t 1) ≤ a) → R μ (some (kI 0))) ∧ (¬ ((μ t 1) ≤ a) → isC t 7 ∧ inA (t + 3) 0 a ∧ r32 (rest - (μ (t + 3) a)) ∧ ((0 ≤ (rest - (μ (t + 3) a))) → V_X7_cellarByNumber R 20 [(0, kR t), (2, kI (rest - (μ (t + 3) a))), (3, kI (a + 1))] μ) ∧ (¬ (0 ≤ (rest - (μ (t + 3) a))) → R μ (some (kI a))))
  exact ⟨isT_C ht, ⟨⟨H.1, H.2.1⟩, fun hc3 => (H.2.2.1 hc3), fun hc3 => ⟨isT_C ht, ⟨isArr.in (T_chance ht) (H.2.2.2 hc3).1.1 (H.2.2.2 hc3).1.2, ⟨(H.2.2.2 hc3).2.1, fun hc2 => ((H.2.2.2 hc3).2.2.1 hc2), fun hc2 => ((H.2.2.2 hc3).2.2.2 hc2)⟩⟩⟩⟩⟩
theorem body_X7_cellarByNumber {t k : Int} {μ : Mem} {R : Mem → Option AV → Prop} (h : P_X7_cellarByNumber t k μ) (hR : R μ (some (kI (F_X7_cellarByNumber t k μ)))) : V_X7_cellarByNumber R 0 [(0, kR t), (1, kI k)] μ := by
  obtain ⟨⟨ht, ok⟩, hk, k0, h3⟩ := h
  have hp : 2 ≤ μ t 1 ∧ μ t 1 ≤ 8 := ok.1
  have em : Int.tmod k (μ t 3) = k % μ t 3 := Int.tmod_eq_emod_of_nonneg k0
  have hm : 0 ≤ k % μ t 3 ∧ k % μ t 3 < 792 := ⟨Int.emod_nonneg _ (by omega), by have := Int.emod_lt_of_pos k h3.1; omega⟩
  refine vc_X7_cellarByNumber_0 ht ⟨rr (by omega), fun c => absurd c (by omega), fun _ => ⟨⟨hk, rr (by omega), by omega⟩, ?_⟩⟩
  rw [em]
  unfold F_X7_cellarByNumber at hR
  generalize k % μ t 3 = n at hm hR ⊢
  have bd : ∀ a : Int, 0 ≤ a → a ≤ μ t 1 → 0 ≤ sm (tv μ t 4) a ∧ sm (tv μ t 4) a ≤ 792 := by
    intro a a0 a1
    have := sm_bd (f := tv μ t 4) (n := a) (c := 0) (d := 99) (fun i i0 i1 => (ok.2.2.2.1 i i0 (by omega)).1) a0
    omega
  refine v_eq (lc := [(0, kR t), (2, kI (n - sm (tv μ t 4) 0)), (3, kI 0)]) ?_ (by rw [sm_0, Int.sub_zero]) rfl
  refine up_ind (P := fun a => (∀ i, 0 ≤ i → i < a → decide (n < sm (tv μ t 4) (i + 1)) = false) → V_X7_cellarByNumber R 20 [(0, kR t), (2, kI (n - sm (tv μ t 4) a)), (3, kI a)] μ) (lo := 0) (hi := μ t 1) ?_ ?_ 0 (by omega) (by omega) (fun i a b => absurd a (by omega))
  · intro a a0 a1 ih hno
    have b1 := bd a a0 (by omega)
    have b2 := bd (a + 1) (by omega) (by omega)
    have es := sm_s (f := tv μ t 4) a0
    refine vc_X7_cellarByNumber_20 ht ⟨rr (by omega), rr (by omega), fun c => absurd c (by omega), fun _ => ⟨⟨a0, by omega⟩, ?_⟩⟩
    rw [e4 μ t a0 (by omega)]
    refine ⟨rr (by omega), fun c => ?_, fun c => r_eq hR ?_⟩
    · refine v_eq (ih (fun i i0 i1 => ?_)) ?_ rfl
      · by_cases hi : i = a
        · rw [hi]; exact decide_eq_false (by omega)
        · exact hno i i0 (by omega)
      · rw [es]
        have : n - (sm (tv μ t 4) a + tv μ t 4 a) = n - sm (tv μ t 4) a - tv μ t 4 a := by omega
        rw [this]
    · unfold byNumV
      have e0 : tv μ t 0 0 = μ t 1 := rfl
      rw [e0, frst_at a0 a1 (decide_eq_true (by omega)) hno]
      omega
  · intro hno
    refine vc_X7_cellarByNumber_20 ht ⟨rr (by omega), rr (by omega), fun _ => r_eq hR ?_, fun c => absurd (Int.le_refl _) c⟩
    unfold byNumV
    have e0 : tv μ t 0 0 = μ t 1 := rfl
    rw [e0, frst_none (by omega) hno]
    rfl
theorem ct_X7_cellarByNumber : Ct mX7_cellarByNumber 0 0 0 0 (nrmS S_X7_cellarByNumber) := by
  refine ct_vm (own := RX7) (by decide +kernel) rfl ?_ ?_
  · intro as μ Q hS
    unfold S_X7_cellarByNumber at hS
    split at hS
    · exact Nat.le_of_ble_eq_true rfl
    · exact hS.elim
  · intro as μ R hS
    unfold S_X7_cellarByNumber at hS
    split at hS
    · exact body_X7_cellarByNumber hS.1 hS.2
    · exact hS.elim
