theorem sm_swap {f : Int → Int → Int} {m n : Int} (hm : 0 ≤ m) (hn : 0 ≤ n) : sm (fun i => sm (fun j => f i j) m) n = sm (fun j => sm (fun i => f i j) n) m := by
  refine nat_ind (P := fun n => sm (fun i => sm (fun j => f i j) m) n = sm (fun j => sm (fun i => f i j) n) m) ?_ (fun i i0 ih => ?_) n hn
  · show (0 : Int) = sm (fun j => 0) m
    have := sm_mul (f := fun _ => 0) (c := 0) hm
    simp only [Int.mul_zero] at this
    exact this.symm
  · rw [sm_s i0, ih, ← sm_add hm]
    refine sm_congr (fun j _ _ => ?_)
    rw [sm_s i0]
def ind (b : Bool) : Int := if b = true then 1 else 0
theorem ind_t {b : Bool} (h : b = true) : ind b = 1 := if_pos h
theorem ind_f {b : Bool} (h : b = false) : ind b = 0 := by rw [h]; rfl
theorem sm_zero {n : Int} (hn : 0 ≤ n) : sm (fun _ => 0) n = 0 := by
  have := sm_mul (f := fun _ => 0) (c := 0) hn
  simp only [Int.mul_zero] at this
  exact this
theorem on_eq {v : TV} (ok : TVok v) (hj : joined v) {p : Int} (hp0 : p ≠ 0) : ∀ (k : Nat) (c : Int), 0 < c → c < v 0 0 → ind (onN v (k + 1) p c) = ind (decide (c = p)) + sm (fun a => if a ≠ 0 ∧ parV v a = p then ind (onN v k a c) else 0) (v 0 0)
  | 0, c, c0, c1 => by
    have hp := ok.1
    rw [on_s (by omega)]
    have : (fun a => if a ≠ 0 ∧ parV v a = p then ind (onN v 0 a c) else 0) = fun _ => 0 := by
      funext a
      split
      · rfl
      · rfl
    rw [this, sm_zero (by omega)]
    show ind (decide (c = p) || false) = _
    rw [Bool.or_false]
    omega
  | k + 1, c, c0, c1 => by
    have hp := ok.1
    have hi := par_in ok c
    have e : ∀ a : Int, 0 ≤ a → a < v 0 0 → (if a ≠ 0 ∧ parV v a = p then ind (onN v (k + 1) a c) else 0) = (if a = c then (if parV v c = p then 1 else 0) else 0) + (if a ≠ 0 ∧ parV v a = p then ind (onN v k a (parV v c)) else 0) := by
      intro a a0 a1
      rw [on_s (show c ≠ 0 by omega)]
      by_cases ha : a = c
      · subst ha
        rw [if_pos rfl]
        by_cases hq : parV v a = p
        · rw [if_pos ⟨by omega, hq⟩, if_pos hq, if_pos ⟨by omega, hq⟩, on_ex ok hj c0 c1, decide_eq_true rfl]; rfl
        · rw [if_neg (fun q => hq q.2), if_neg hq, if_neg (fun q => hq q.2)]; rfl
      · rw [if_neg ha, decide_eq_false (show ¬ c = a from fun q => ha q.symm), Bool.false_or]; omega
    rw [sm_congr e, sm_add (by omega), sm_one (by omega), if_pos ⟨by omega, c1⟩, on_s (show c ≠ 0 by omega)]
    have hor : ind (decide (c = p) || onN v (k + 1) p (parV v c)) = ind (decide (c = p)) + ind (onN v (k + 1) p (parV v c)) := by
      by_cases hc : c = p
      · subst hc
        rw [on_ex ok hj c0 c1, Bool.or_false]; show _ = _ + (0 : Int); omega
      · rw [decide_eq_false hc, Bool.false_or]; show _ = (0 : Int) + _; omega
    rw [hor]
    by_cases hz : parV v c = 0
    · rw [hz, on_0, if_neg (fun q => hp0 q.symm)]
      have : (fun a => if a ≠ 0 ∧ parV v a = p then ind (onN v k a 0) else 0) = fun _ => 0 := by
        funext a
        rw [on_0]
        split <;> rfl
      rw [this, sm_zero (by omega)]
      show _ + (0 : Int) = _
      omega
    · rw [on_eq ok hj hp0 k (parV v c) (by omega) hi.2]
      by_cases hq : parV v c = p
      · rw [if_pos hq, decide_eq_true hq]; rfl
      · rw [if_neg hq, decide_eq_false hq]; rfl
theorem on_end {v : TV} (ok : TVok v) (hj : joined v) {p : Int} : ∀ (k : Nat) (c : Int), 0 ≤ c → c < v 0 0 → cnt (fun b => decide (wayV v 0 b < wayV v 0 c)) (v 0 0) ≤ k → onN v (k + 1) p c = onN v k p c
  | 0, c, c0, c1, h => by
    have hp := ok.1
    by_cases hc : c = 0
    · rw [hc, on_0, on_0]
    · have hi := par_in ok c
      have hl := par_lt ok hj (show 0 < c by omega) c1
      have h1 := cnt_lt (p := fun _ => false) (q := fun b => decide (wayV v 0 b < wayV v 0 c)) (n := v 0 0) (x := parV v c) (fun _ _ _ q => by simp at q) hi.1 hi.2 rfl (by simp; omega)
      have h2 := cnt_bd (p := fun _ => false) (n := v 0 0) (by omega)
      omega
  | k + 1, c, c0, c1, h => by
    have hp := ok.1
    by_cases hc : c = 0
    · rw [hc, on_0, on_0]
    · have hi := par_in ok c
      have hl := par_lt ok hj (show 0 < c by omega) c1
      have h1 := cnt_lt (p := fun b => decide (wayV v 0 b < wayV v 0 (parV v c))) (q := fun b => decide (wayV v 0 b < wayV v 0 c)) (n := v 0 0) (x := parV v c) (fun i _ _ q => by simp at q ⊢; omega) hi.1 hi.2 (by simp) (by simp; omega)
      rw [on_s hc, on_s (k := k) hc, on_end ok hj k (parV v c) hi.1 hi.2 (by omega)]
theorem cnt7 {v : TV} (ok : TVok v) {c : Int} (c0 : 0 ≤ c) (c1 : c < v 0 0) : cnt (fun b => decide (wayV v 0 b < wayV v 0 c)) (v 0 0) ≤ 7 := by
  have hp := ok.1
  have := cnt_lt (p := fun b => decide (wayV v 0 b < wayV v 0 c)) (q := fun _ => true) (n := v 0 0) (x := c) (fun _ _ _ _ => rfl) c0 c1 (by simp) rfl
  have := cnt_bd (p := fun _ => true) (n := v 0 0) (by omega)
  omega
def bsV (v : TV) (p : Int) : Int := sm (fun a => if a ≠ 0 ∧ parV v a = p then brV v a else 0) (v 0 0)
/-- a branch is its lane and the branches behind it -/
theorem br_eq {v : TV} (ok : TVok v) (hj : joined v) {p : Int} (hp0 : 0 < p) (hp1 : p < v 0 0) : brV v p = lenV v p + bsV v p := by
  have hp := ok.1
  have e : ∀ c : Int, 0 ≤ c → c < v 0 0 → (if onN v 8 p c = true then lenV v c else 0) = (if c = p then lenV v p else 0) + sm (fun a => if a ≠ 0 ∧ parV v a = p then (if onN v 8 a c = true then lenV v c else 0) else 0) (v 0 0) := by
    intro c c0 c1
    by_cases hc : c = 0
    · subst hc
      rw [on_0, if_neg (by simp), if_neg (by omega)]
      have : (fun a => if a ≠ 0 ∧ parV v a = p then (if onN v 8 a 0 = true then lenV v 0 else 0) else 0) = fun _ => 0 := by
        funext a
        rw [on_0]
        split <;> rfl
      rw [this, sm_zero (by omega)]
      rfl
    · have h1 := on_eq ok hj (p := p) (by omega) 8 c (by omega) c1
      have h2 := cnt7 ok c0 c1
      rw [on_end ok hj 8 c c0 c1 (by omega)] at h1
      have e1 : (if onN v 8 p c = true then lenV v c else 0) = ind (onN v 8 p c) * lenV v c := by
        unfold ind
        split <;> omega
      have e2 : ∀ a : Int, 0 ≤ a → a < v 0 0 → (if a ≠ 0 ∧ parV v a = p then (if onN v 8 a c = true then lenV v c else 0) else 0) = (if a ≠ 0 ∧ parV v a = p then ind (onN v 8 a c) else 0) * lenV v c := by
        intro a _ _
        unfold ind
        split
        · split <;> omega
        · omega
      rw [e1, h1, Int.add_mul, sm_congr e2, sm_mul (by omega)]
      congr 1
      unfold ind
      by_cases q : c = p
      · subst q; rw [decide_eq_true rfl, if_pos rfl, if_pos rfl]; omega
      · rw [decide_eq_false q, if_neg q]; simp
  unfold brV
  rw [sm_congr e, sm_add (by omega), sm_one (by omega), if_pos ⟨by omega, hp1⟩, sm_swap (by omega) (by omega)]
  congr 1
  refine sm_congr (fun a _ _ => ?_)
  by_cases q : a ≠ 0 ∧ parV v a = p
  · rw [if_pos q]
    refine sm_congr (fun c _ _ => ?_)
    rw [if_pos q]
  · rw [if_neg q]
    have : (fun c => if a ≠ 0 ∧ parV v a = p then (if onN v 8 a c = true then lenV v c else 0) else 0) = fun _ => 0 := by
      funext c
      rw [if_neg q]
    rw [this, sm_zero (by omega)]
theorem br_bd {v : TV} (ok : TVok v) (hj : joined v) {p : Int} : 0 ≤ brV v p ∧ brV v p ≤ 160 := by
  have hp := ok.1
  have := sm_bd (f := fun c => if onN v 8 p c = true then lenV v c else 0) (n := v 0 0) (c := 0) (d := 20) (fun c c0 c1 => by
    show 0 ≤ (if onN v 8 p c = true then lenV v c else 0) ∧ (if onN v 8 p c = true then lenV v c else 0) ≤ 20
    by_cases hc : c = 0
    · rw [hc, on_0]; simp
    · have := len_bd ok hj (show 0 < c by omega) c1
      split <;> omega) (by omega)
  unfold brV
  omega
theorem br_pos {v : TV} (ok : TVok v) (hj : joined v) {p : Int} (p0 : 0 < p) (p1 : p < v 0 0) : 1 ≤ brV v p := by
  have hp := ok.1
  have h1 := len_bd ok hj p0 p1
  have h2 : sm (fun c => if c = p then lenV v p else 0) (v 0 0) ≤ brV v p := by
    refine sm_le (fun c c0 c1 => ?_) (by omega)
    show (if c = p then lenV v p else 0) ≤ (if onN v 8 p c = true then lenV v c else 0)
    by_cases hc : c = p
    · subst hc
      rw [if_pos rfl, on_s (k := 7) (by omega), decide_eq_true rfl, Bool.true_or, if_pos rfl]; omega
    · rw [if_neg hc]
      by_cases hz : c = 0
      · rw [hz, on_0]; simp
      · have := len_bd ok hj (show 0 < c by omega) c1
        split <;> omega
  rw [sm_one (by omega), if_pos ⟨by omega, p1⟩] at h2
  omega
theorem bs_bd {v : TV} (ok : TVok v) (hj : joined v) {p : Int} (p0 : 0 ≤ p) (p1 : p < v 0 0) : 0 ≤ bsV v p ∧ bsV v p ≤ 1280 ∧ (p ≠ 0 → bsV v p ≤ 160) := by
  have hp := ok.1
  have := sm_bd (f := fun a => if a ≠ 0 ∧ parV v a = p then brV v a else 0) (n := v 0 0) (c := 0) (d := 160) (fun c c0 c1 => by
    have := br_bd ok hj (p := c)
    show 0 ≤ (if c ≠ 0 ∧ parV v c = p then brV v c else 0) ∧ (if c ≠ 0 ∧ parV v c = p then brV v c else 0) ≤ 160
    split <;> omega) (by omega)
  refine ⟨by unfold bsV; omega, by unfold bsV; omega, fun q => ?_⟩
  have h1 := br_eq ok hj (show 0 < p by omega) p1
  have h2 := br_bd ok hj (p := p)
  have h3 := len_bd ok hj (show 0 < p by omega) p1
  omega
theorem bs_pos {v : TV} (ok : TVok v) (hj : joined v) {q : Int} (q0 : 0 < q) (q1 : q < v 0 0) : 1 ≤ bsV v (parV v q) := by
  have hp := ok.1
  have h1 := br_pos ok hj q0 q1
  have h2 : sm (fun c => if c = q then brV v q else 0) (v 0 0) ≤ bsV v (parV v q) := by
    refine sm_le (fun c c0 c1 => ?_) (by omega)
    show (if c = q then brV v q else 0) ≤ (if c ≠ 0 ∧ parV v c = parV v q then brV v c else 0)
    by_cases hc : c = q
    · subst hc
      rw [if_pos rfl, if_pos ⟨by omega, rfl⟩]; omega
    · rw [if_neg hc]
      have := br_bd ok hj (p := c)
      split <;> omega
  rw [sm_one (by omega), if_pos ⟨by omega, q1⟩] at h2
  omega
theorem bsM_eq {v : TV} {μ : Mem} (h : TreeR v μ) (p : Int) : bsM μ (v 0 0) p = bsV v p := sm_congr fun a a0 a1 => by rw [(h a a0 a1).1, (h a a0 a1).2]
theorem gcd_div {A B : Int} (hA : 1 ≤ A) (hB : 1 ≤ B) : 1 ≤ gcdI A B ∧ gcdI A B ≤ A ∧ (1 ≤ A / gcdI A B ∧ A / gcdI A B ≤ A) ∧ (1 ≤ B / gcdI A B ∧ B / gcdI A B ≤ B) := by
  have h0 : 0 < Nat.gcd A.toNat B.toNat := Nat.gcd_pos_of_pos_left _ (by omega)
  have h1 : Nat.gcd A.toNat B.toNat ≤ A.toNat := Nat.gcd_le_left _ (by omega)
  have h2 : Nat.gcd A.toNat B.toNat ≤ B.toNat := Nat.gcd_le_right _ (by omega)
  have e : gcdI A B = (Nat.gcd A.toNat B.toNat : Int) := rfl
  generalize gcdI A B = g at e ⊢
  have g0 : 1 ≤ g := by omega
  have gA : g ≤ A := by omega
  have gB : g ≤ B := by omega
  exact ⟨g0, gA, ⟨(Int.le_ediv_iff_mul_le (by omega)).mpr (by omega), Int.ediv_le_self _ (by omega)⟩, (Int.le_ediv_iff_mul_le (by omega)).mpr (by omega), Int.ediv_le_self _ (by omega)⟩
/-- how likely the walk ends here, as a fraction: up from q -/
def weN (v : TV) : Nat → Int → Int → Int → Int × Int
  | 0, _, A, B => (A, B)
  | k + 1, q, A, B => if q = 0 then (A, B) else weN v k (parV v q) (A * brV v q / gcdI (A * brV v q) (B * bsV v (parV v q))) (B * bsV v (parV v q) / gcdI (A * brV v q) (B * bsV v (parV v q)))
theorem weN_s {v : TV} {k : Nat} {q A B : Int} : weN v (k + 1) q A B = if q = 0 then (A, B) else weN v k (parV v q) (A * brV v q / gcdI (A * brV v q) (B * bsV v (parV v q))) (B * bsV v (parV v q) / gcdI (A * brV v q) (B * bsV v (parV v q))) := rfl
def weV (v : TV) (p : Int) : Int × Int := if p ≠ 0 ∧ lanesV v p = 1 then weN v 8 p 1 1 else (0, 1)
def P_X8_weighEnd (o t p : Int) (μ : Mem) : Prop := o = 195 ∧ TB μ t ∧ joined (tv μ t) ∧ TreeR (tv μ t) μ ∧ (0 ≤ p ∧ p < tv μ t 0 0)
def Q_X8_weighEnd (_ t p : Int) (μ μ' : Mem) : Prop := (μ' 195 2 = (weV (tv μ t) p).1 ∧ μ' 195 3 = (weV (tv μ t) p).2) ∧ (∀ j : Int, j ≠ 2 → j ≠ 3 → μ' 195 j = μ 195 j) ∧ ∀ z : Int, z ≠ 195 → μ' z = μ z
theorem pw160 {i : Int} (h0 : 0 ≤ i) (h1 : i ≤ 7) : 1 ≤ pw 160 i ∧ pw 160 i ≤ 2684354560000000 := by
  have h : i = 0 ∨ i = 1 ∨ i = 2 ∨ i = 3 ∨ i = 4 ∨ i = 5 ∨ i = 6 ∨ i = 7 := by omega
  rcases h with h | h | h | h | h | h | h | h <;> subst h <;> decide +kernel
def S_X8_weighEnd : S0t := fun as μ Q => match as with
  | [(2, x0), (2, x1), (0, x2)] => P_X8_weighEnd x0 x1 x2 μ ∧ ∀ (μ' : Mem) , Q_X8_weighEnd x0 x1 x2 μ μ'  → Q μ' none
  | _ => False
theorem mono_X8_weighEnd : Mono S_X8_weighEnd := by
  intro as μ Q Q' h hS
  unfold S_X8_weighEnd at hS ⊢
  split at hS
  · exact ⟨hS.1, fun μ' q => h _ _ (hS.2 _ q)⟩
  · exact hS.elim
def iX8_weighEnd : Inf := (kX8_weighEnd, fTX8, pTX8, cTX8, lTX8, sTX8, [(35, 0, 1, 7, S_X7_lanesAt), (46, 0, 2, 8, S_X8_branchesAt), (49, 1, 2, 0, S_X10_commonDivisor)])
theorem ok_X8_weighEnd : infOK iX8_weighEnd mX8_weighEnd RX8 2 45 := ⟨kkX8_weighEnd, fTX8_ok, pTX8_ok _, cTX8_ok, lTX8_ok, sTX8_ok, c_cons ⟨mX7_lanesAt, 1, 22, ct_X7_lanesAt, mmX7_lanesAt, vvX7_lanesAt, lkX8_35, ⟨by decide, by decide⟩, ⟨_, _, rfl⟩, by decide, mono_X7_lanesAt⟩ (c_cons ⟨mX8_branchesAt, 0, 0, ct_X8_branchesAt, mmX8_branchesAt, vvX8_branchesAt, lkX8_46, ⟨by decide, by decide⟩, ⟨_, _, rfl⟩, by decide, mono_X8_branchesAt⟩ (c_cons ⟨mX10_commonDivisor, 0, 0, ct_X10_commonDivisor, mmX10_commonDivisor, stX10_commonDivisor, lkX8_49, ⟨by decide, by decide⟩, mono_X10_commonDivisor⟩ (c_nil)))⟩
theorem mt_X8_weighEnd : mtOK [] RX8 2 45 := mt_nil
abbrev V_X8_weighEnd (R : Mem → Option AV → Prop) (pc : Nat) (lc : List (Nat × AV)) (μ : Mem) : Prop := VM mX8_weighEnd RX8 2 45 R pc lc [] μ
set_option maxRecDepth 20000 in
theorem vc_X8_weighEnd_0 {R : Mem → Option AV → Prop} {p t : Int} {μ : Mem} (ht : isT t) (H : r32 p ∧ ((p = 0) → V_X8_weighEnd R 32 [(0, kR 195), (1, kR t), (2, kI p), (3, kI 0)] (updm μ 195 2 0)) ∧ (¬ (p = 0) → P_X7_lanesAt t p μ ∧ r32 (F_X7_lanesAt t p μ) ∧ ((¬ (F_X7_lanesAt t p μ) = (1 : Int)) → V_X8_weighEnd R 32 [(0, kR 195), (1, kR t), (2, kI p), (3, kI 0)] (updm μ 195 2 0)) ∧ (¬ (¬ (F_X7_lanesAt t p μ) = (1 : Int)) → V_X8_weighEnd R 32 [(0, kR 195), (1, kR t), (2, kI p), (3, kI 1)] (updm μ 195 2 1)))) : V_X8_weighEnd R 0 [(0, kR 195), (1, kR t), (2, kI p)] μ := by
  refine vm_step2 mt_X8_weighEnd ok_X8_weighEnd [(32, [0, 1, 2, 3]), (37, [0, 1, 2, 3]), (43, [0, 1, 3, 4, 5]), (76, [0, 1, 3, 4, 5]), (98, [0, 1, 3, 4, 5]), (129, [0, 1, 3, 4, 5, 6]), (140, [0, 1, 3, 4, 5])] 1000 ?_
  show r32 p ∧ ((p = 0) → r32 (0 : Int) ∧ (((0 : Int) = 0) → isC 195 8 ∧ 1 = 1 ∧ True ∧ V_X8_weighEnd R 32 [(0, kR 195), (1, kR t), (2, kI p), (3, kI 0)] (updm μ 195 2 0)) ∧ (¬ ((0 : Int) = 0) → isC 195 8 ∧ 1 = 1 ∧ True ∧ V_X8_weighEnd R 32 [(0, kR 195), (1, kR t), (2, kI p), (3, kI 0)] (updm μ 195 2 1))) ∧ (¬ (p = 0) → isC t 7 ∧ P_X7_lanesAt t p μ ∧ (r32 (F_X7_lanesAt t p μ) ∧ r32 (1 : Int)) ∧ ((¬ (F_X7_lanesAt t p μ) = (1 : Int)) → r32 (0 : Int) ∧ (((0 : Int) = 0) → isC 195 8 ∧ 1 = 1 ∧ True ∧ V_X8_weighEnd R 32 [(0, kR 195), (1, kR t), (2, kI p), (3, kI 0)] (updm μ 195 2 0)) ∧ (¬ ((0 : Int) = 0) → isC 195 8 ∧ 1 = 1 ∧ True ∧ V_X8_weighEnd R 32 [(0, kR 195), (1, kR t), (2, kI p), (3, kI 0)] (updm μ 195 2 1))) ∧ (¬ (¬ (F_X7_lanesAt t p μ) = (1 : Int)) → r32 (1 : Int) ∧ (((1 : Int) = 0) → isC 195 8 ∧ 1 = 1 ∧ True ∧ V_X8_weighEnd R 32 [(0, kR 195), (1, kR t), (2, kI p), (3, kI 1)] (updm μ 195 2 0)) ∧ (¬ ((1 : Int) = 0) → isC 195 8 ∧ 1 = 1 ∧ True ∧ V_X8_weighEnd R 32 [(0, kR 195), (1, kR t), (2, kI p), (3, kI 1)] (updm μ 195 2 1))))
  exact ⟨H.1, fun hc5 => ⟨by unfold r32; omega, fun _ => ⟨c_195, rfl, trivial, (H.2.1 hc5)⟩, fun q => absurd (by omega) q⟩, fun hc5 => ⟨isT_C ht, (H.2.2 hc5).1, ⟨⟨(H.2.2 hc5).2.1, by unfold r32; omega⟩, fun hc4 => ⟨by unfold r32; omega, fun _ => ⟨c_195, rfl, trivial, ((H.2.2 hc5).2.2.1 hc4)⟩, fun q => absurd (by omega) q⟩, fun hc4 => ⟨by unfold r32; omega, fun q => absurd q (by omega), fun _ => ⟨c_195, rfl, trivial, ((H.2.2 hc5).2.2.2 hc4)⟩⟩⟩⟩⟩
set_option maxRecDepth 20000 in
theorem vc_X8_weighEnd_32 {R : Mem → Option AV → Prop} {p en t : Int} {μ : Mem} (ht : isT t) (H : V_X8_weighEnd R 37 [(0, kR 195), (1, kR t), (2, kI p), (3, kI en)] (updm μ 195 3 1)) : V_X8_weighEnd R 32 [(0, kR 195), (1, kR t), (2, kI p), (3, kI en)] μ := by
  refine vm_step2 mt_X8_weighEnd ok_X8_weighEnd [(32, [0, 1, 2, 3]), (37, [0, 1, 2, 3]), (43, [0, 1, 3, 4, 5]), (76, [0, 1, 3, 4, 5]), (98, [0, 1, 3, 4, 5]), (129, [0, 1, 3, 4, 5, 6]), (140, [0, 1, 3, 4, 5])] 1000 ?_
  show isC 195 8 ∧ 1 = 1 ∧ True ∧ V_X8_weighEnd R 37 [(0, kR 195), (1, kR t), (2, kI p), (3, kI en)] (updm μ 195 3 1)
  exact ⟨c_195, rfl, trivial, H⟩
set_option maxRecDepth 20000 in
theorem vc_X8_weighEnd_37 {R : Mem → Option AV → Prop} {p en t : Int} {μ : Mem} (ht : isT t) (H : V_X8_weighEnd R 43 [(0, kR 195), (1, kR t), (3, kI en), (4, kI p), (5, kI 0)] μ) : V_X8_weighEnd R 37 [(0, kR 195), (1, kR t), (2, kI p), (3, kI en)] μ := by
  refine vm_step2 mt_X8_weighEnd ok_X8_weighEnd [(32, [0, 1, 2, 3]), (37, [0, 1, 2, 3]), (43, [0, 1, 3, 4, 5]), (76, [0, 1, 3, 4, 5]), (98, [0, 1, 3, 4, 5]), (129, [0, 1, 3, 4, 5, 6]), (140, [0, 1, 3, 4, 5])] 1000 ?_
  show V_X8_weighEnd R 43 [(0, kR 195), (1, kR t), (3, kI en), (4, kI p), (5, kI 0)] μ
  exact H
set_option maxRecDepth 20000 in
theorem vc_X8_weighEnd_43 {R : Mem → Option AV → Prop} {en q i t : Int} {μ : Mem} (ht : isT t) (H : r32 i ∧ (((8 : Int) ≤ i) → R μ none) ∧ (¬ ((8 : Int) ≤ i) → r32 q ∧ ((q = 0) → R μ none) ∧ (¬ (q = 0) → r32 en ∧ ((en = 0) → R μ none) ∧ (¬ (en = 0) → (0 ≤ q ∧ q < 8) ∧ r32 (μ 197 q) ∧ V_X8_weighEnd R 76 [(0, kR 195), (1, kR t), (3, kI en), (4, kI q), (5, kI i)] (updm μ 195 2 ((μ 195 2) * (μ 197 q))))))) : V_X8_weighEnd R 43 [(0, kR 195), (1, kR t), (3, kI en), (4, kI q), (5, kI i)] μ := by
  refine vm_step2 mt_X8_weighEnd ok_X8_weighEnd [(32, [0, 1, 2, 3]), (37, [0, 1, 2, 3]), (43, [0, 1, 3, 4, 5]), (76, [0, 1, 3, 4, 5]), (98, [0, 1, 3, 4, 5]), (129, [0, 1, 3, 4, 5, 6]), (140, [0, 1, 3, 4, 5])] 1000 ?_
  show (r32 i ∧ r32 (8 : Int)) ∧ (((8 : Int) ≤ i) → R μ none) ∧ (¬ ((8 : Int) ≤ i) → r32 q ∧ ((q = 0) → R μ none) ∧ (¬ (q = 0) → r32 en ∧ ((en = 0) → R μ none) ∧ (¬ (en = 0) → isC 195 8 ∧ isC 195 8 ∧ inA 197 0 q ∧ r32 (μ 197 q) ∧ isC 195 8 ∧ 1 = 1 ∧ True ∧ V_X8_weighEnd R 76 [(0, kR 195), (1, kR t), (3, kI en), (4, kI q), (5, kI i)] (updm μ 195 2 ((μ 195 2) * (μ 197 q))))))
  exact ⟨⟨H.1, by unfold r32; omega⟩, fun hc8 => (H.2.1 hc8), fun hc8 => ⟨(H.2.2 hc8).1, fun hc7 => ((H.2.2 hc8).2.1 hc7), fun hc7 => ⟨((H.2.2 hc8).2.2 hc7).1, fun hc6 => (((H.2.2 hc8).2.2 hc7).2.1 hc6), fun hc6 => ⟨c_195, ⟨c_195, ⟨isArr.in a_197 (((H.2.2 hc8).2.2 hc7).2.2 hc6).1.1 (((H.2.2 hc8).2.2 hc7).2.2 hc6).1.2, ⟨(((H.2.2 hc8).2.2 hc7).2.2 hc6).2.1, ⟨c_195, rfl, trivial, (((H.2.2 hc8).2.2 hc7).2.2 hc6).2.2⟩⟩⟩⟩⟩⟩⟩⟩
set_option maxRecDepth 20000 in
theorem vc_X8_weighEnd_76 {R : Mem → Option AV → Prop} {en q i t : Int} {μ : Mem} (ht : isT t) (H : (0 ≤ q ∧ q < 8) ∧ P_X8_branchesAt 195 t (μ 196 q) μ ∧ r32 (F_X8_branchesAt 195 t (μ 196 q) μ) ∧ V_X8_weighEnd R 98 [(0, kR 195), (1, kR t), (3, kI en), (4, kI q), (5, kI i)] (updm μ 195 3 ((μ 195 3) * (F_X8_branchesAt 195 t (μ 196 q) μ)))) : V_X8_weighEnd R 76 [(0, kR 195), (1, kR t), (3, kI en), (4, kI q), (5, kI i)] μ := by
  refine vm_step2 mt_X8_weighEnd ok_X8_weighEnd [(32, [0, 1, 2, 3]), (37, [0, 1, 2, 3]), (43, [0, 1, 3, 4, 5]), (76, [0, 1, 3, 4, 5]), (98, [0, 1, 3, 4, 5]), (129, [0, 1, 3, 4, 5, 6]), (140, [0, 1, 3, 4, 5])] 1000 ?_
  show isC 195 8 ∧ isC 195 8 ∧ inA 196 0 q ∧ isC 195 8 ∧ P_X8_branchesAt 195 t (μ 196 q) μ ∧ r32 (F_X8_branchesAt 195 t (μ 196 q) μ) ∧ isC 195 8 ∧ 1 = 1 ∧ True ∧ V_X8_weighEnd R 98 [(0, kR 195), (1, kR t), (3, kI en), (4, kI q), (5, kI i)] (updm μ 195 3 ((μ 195 3) * (F_X8_branchesAt 195 t (μ 196 q) μ)))
  exact ⟨c_195, ⟨c_195, ⟨isArr.in a_196 H.1.1 H.1.2, ⟨c_195, H.2.1, ⟨H.2.2.1, ⟨c_195, rfl, trivial, H.2.2.2⟩⟩⟩⟩⟩⟩
set_option maxRecDepth 20000 in
theorem vc_X8_weighEnd_98 {R : Mem → Option AV → Prop} {en q i t : Int} {μ : Mem} (ht : isT t) (H : P_X10_commonDivisor (μ 195 2) (μ 195 3) μ ∧ r64 (F_X10_commonDivisor (μ 195 2) (μ 195 3) μ) ∧ (((F_X10_commonDivisor (μ 195 2) (μ 195 3) μ) ≤ (1 : Int)) → V_X8_weighEnd R 140 [(0, kR 195), (1, kR t), (3, kI en), (4, kI q), (5, kI i)] μ) ∧ (¬ ((F_X10_commonDivisor (μ 195 2) (μ 195 3) μ) ≤ (1 : Int)) → (r64 (μ 195 2) ∧ r64 (F_X10_commonDivisor (μ 195 2) (μ 195 3) μ) ∧ (F_X10_commonDivisor (μ 195 2) (μ 195 3) μ) ≠ 0) ∧ V_X8_weighEnd R 129 [(0, kR 195), (1, kR t), (3, kI en), (4, kI q), (5, kI i), (6, kL (F_X10_commonDivisor (μ 195 2) (μ 195 3) μ))] (updm μ 195 2 (Int.tdiv (μ 195 2) (F_X10_commonDivisor (μ 195 2) (μ 195 3) μ))))) : V_X8_weighEnd R 98 [(0, kR 195), (1, kR t), (3, kI en), (4, kI q), (5, kI i)] μ := by
  refine vm_step2 mt_X8_weighEnd ok_X8_weighEnd [(32, [0, 1, 2, 3]), (37, [0, 1, 2, 3]), (43, [0, 1, 3, 4, 5]), (76, [0, 1, 3, 4, 5]), (98, [0, 1, 3, 4, 5]), (129, [0, 1, 3, 4, 5, 6]), (140, [0, 1, 3, 4, 5])] 1000 ?_
  show isC 195 8 ∧ isC 195 8 ∧ P_X10_commonDivisor (μ 195 2) (μ 195 3) μ ∧ (r64 (F_X10_commonDivisor (μ 195 2) (μ 195 3) μ) ∧ r64 (1 : Int)) ∧ r32 (lcm3 (F_X10_commonDivisor (μ 195 2) (μ 195 3) μ) (1 : Int)) ∧ ((lcm3 (F_X10_commonDivisor (μ 195 2) (μ 195 3) μ) (1 : Int) ≤ 0) → V_X8_weighEnd R 140 [(0, kR 195), (1, kR t), (3, kI en), (4, kI q), (5, kI i)] μ) ∧ (¬ (lcm3 (F_X10_commonDivisor (μ 195 2) (μ 195 3) μ) (1 : Int) ≤ 0) → isC 195 8 ∧ (r64 (μ 195 2) ∧ r64 (F_X10_commonDivisor (μ 195 2) (μ 195 3) μ) ∧ (F_X10_commonDivisor (μ 195 2) (μ 195 3) μ) ≠ 0) ∧ isC 195 8 ∧ 1 = 1 ∧ True ∧ V_X8_weighEnd R 129 [(0, kR 195), (1, kR t), (3, kI en), (4, kI q), (5, kI i), (6, kL (F_X10_commonDivisor (μ 195 2) (μ 195 3) μ))] (updm μ 195 2 (Int.tdiv (μ 195 2) (F_X10_commonDivisor (μ 195 2) (μ 195 3) μ))))
  exact ⟨c_195, ⟨c_195, ⟨H.1, ⟨⟨H.2.1, by unfold r64; omega⟩, lcm3_r _ _, fun hc9 => (H.2.2.1 (lcm_le.mp hc9)), fun hc9 => ⟨c_195, ⟨(H.2.2.2 (fun q => hc9 (lcm_le.mpr q))).1, ⟨c_195, rfl, trivial, (H.2.2.2 (fun q => hc9 (lcm_le.mpr q))).2⟩⟩⟩⟩⟩⟩⟩
set_option maxRecDepth 20000 in
theorem vc_X8_weighEnd_129 {R : Mem → Option AV → Prop} {en q i v6 t : Int} {μ : Mem} (ht : isT t) (H : (r64 (μ 195 3) ∧ r64 v6 ∧ v6 ≠ 0) ∧ V_X8_weighEnd R 140 [(0, kR 195), (1, kR t), (3, kI en), (4, kI q), (5, kI i)] (updm μ 195 3 (Int.tdiv (μ 195 3) v6))) : V_X8_weighEnd R 129 [(0, kR 195), (1, kR t), (3, kI en), (4, kI q), (5, kI i), (6, kL v6)] μ := by
  refine vm_step2 mt_X8_weighEnd ok_X8_weighEnd [(32, [0, 1, 2, 3]), (37, [0, 1, 2, 3]), (43, [0, 1, 3, 4, 5]), (76, [0, 1, 3, 4, 5]), (98, [0, 1, 3, 4, 5]), (129, [0, 1, 3, 4, 5, 6]), (140, [0, 1, 3, 4, 5])] 1000 ?_
  show isC 195 8 ∧ (r64 (μ 195 3) ∧ r64 v6 ∧ v6 ≠ 0) ∧ isC 195 8 ∧ 1 = 1 ∧ True ∧ V_X8_weighEnd R 140 [(0, kR 195), (1, kR t), (3, kI en), (4, kI q), (5, kI i)] (updm μ 195 3 (Int.tdiv (μ 195 3) v6))
  exact ⟨c_195, ⟨H.1, ⟨c_195, rfl, trivial, H.2⟩⟩⟩
set_option maxRecDepth 20000 in
theorem vc_X8_weighEnd_140 {R : Mem → Option AV → Prop} {en q i t : Int} {μ : Mem} (ht : isT t) (H : (0 ≤ q ∧ q < 8) ∧ V_X8_weighEnd R 43 [(0, kR 195), (1, kR t), (3, kI en), (4, kI (μ 196 q)), (5, kI (i + 1))] μ) : V_X8_weighEnd R 140 [(0, kR 195), (1, kR t), (3, kI en), (4, kI q), (5, kI i)] μ := by
  refine vm_step2 mt_X8_weighEnd ok_X8_weighEnd [(32, [0, 1, 2, 3]), (37, [0, 1, 2, 3]), (43, [0, 1, 3, 4, 5]), (76, [0, 1, 3, 4, 5]), (98, [0, 1, 3, 4, 5]), (129, [0, 1, 3, 4, 5, 6]), (140, [0, 1, 3, 4, 5])] 1000 ?_
  show isC 195 8 ∧ inA 196 0 q ∧ V_X8_weighEnd R 43 [(0, kR 195), (1, kR t), (3, kI en), (4, kI (μ 196 q)), (5, kI (i + 1))] μ
  exact ⟨c_195, ⟨isArr.in a_196 H.1.1 H.1.2, H.2⟩⟩
theorem body_X8_weighEnd {o t p : Int} {μ : Mem} {R : Mem → Option AV → Prop} (h : P_X8_weighEnd o t p μ) (hR : ∀ μ' : Mem, Q_X8_weighEnd o t p μ μ' → R μ' none) : V_X8_weighEnd R 0 [(0, kR o), (1, kR t), (2, kI p)] μ := by
  obtain ⟨rfl, ⟨ht, ok⟩, hj, htr, hpp⟩ := h
  have hp : 2 ≤ μ t 1 ∧ μ t 1 ≤ 8 := ok.1
  have hpe : tv μ t 0 0 = μ t 1 := rfl
  have hT := isT_hi ht
  have fr : ∀ {m : Mem}, (∀ z : Int, z ≠ 195 → m z = μ z) → ∀ z : Int, t ≤ z → z ≤ t + 9 → m z = μ z := fun h z z0 z1 => h z (by omega)
  have key : ∀ (k : Nat) (i q A B : Int) (m : Mem), i + k = 8 → 0 ≤ i → (0 ≤ q ∧ q < μ t 1) → (1 ≤ A ∧ A ≤ pw 160 i) → 1 ≤ B → (q ≠ 0 → B ≤ pw 160 i) → (∀ z : Int, z ≠ 195 → m z = μ z) → (∀ j : Int, j ≠ 2 → j ≠ 3 → m 195 j = μ 195 j) → m 195 2 = A → m 195 3 = B → weN (tv μ t) k q A B = weV (tv μ t) p → V_X8_weighEnd R 43 [(0, kR 195), (1, kR t), (3, kI 1), (4, kI q), (5, kI i)] m := by
    intro k
    induction k with
    | zero =>
      intro i q A B m hik i0 hq hA hB1 hB hf hj m2 m3 hw
      refine vc_X8_weighEnd_43 ht ⟨rr (by omega), fun _ => hR m ⟨⟨?_, ?_⟩, hj, hf⟩, fun c => absurd (show (8 : Int) ≤ i by omega) c⟩
      · rw [← hw, m2]; rfl
      · rw [← hw, m3]; rfl
    | succ k ih =>
      intro i q A B m hik i0 hq hA hB1 hB hf hj' m2 m3 hw
      by_cases hq0 : q = 0
      · refine vc_X8_weighEnd_43 ht ⟨rr (by omega), fun c => absurd c (by omega), fun _ => ⟨rr (by omega), fun _ => hR m ⟨⟨?_, ?_⟩, hj', hf⟩, fun c => absurd hq0 c⟩⟩
        · rw [← hw, m2]; unfold weN; rw [if_pos hq0]
        · rw [← hw, m3]; unfold weN; rw [if_pos hq0]
      · have hqp := par_in ok q
        have hpw := pw160 i0 (show i ≤ 7 by omega)
        have hps : pw 160 (i + 1) = pw 160 i * 160 := pw_s i0
        have b1 := br_pos ok hj (show 0 < q by omega) hq.2
        have b2 := br_bd ok hj (p := q)
        have s1 := bs_pos ok hj (show 0 < q by omega) hq.2
        have s2 := bs_bd ok hj hqp.1 hqp.2
        have eA := mul_bd (A := pw 160 i) (B := 160) (a := A) (b := brV (tv μ t) q) (by omega) hA.2 (by omega) b2.2
        have pA : 1 ≤ A * brV (tv μ t) q := Int.mul_pos (by omega) (by omega)
        have eB := mul_bd (A := pw 160 i) (B := 1280) (a := B) (b := bsV (tv μ t) (parV (tv μ t) q)) (by omega) (hB hq0) (by omega) s2.2.1
        have pB : 1 ≤ B * bsV (tv μ t) (parV (tv μ t) q) := Int.mul_pos (by omega) (by omega)
        have eB2 : parV (tv μ t) q ≠ 0 → B * bsV (tv μ t) (parV (tv μ t) q) ≤ pw 160 i * 160 := fun h => (mul_bd (A := pw 160 i) (B := 160) (a := B) (b := bsV (tv μ t) (parV (tv μ t) q)) (by omega) (hB hq0) (by omega) (s2.2.2 h)).2
        have e7 : m 197 q = brV (tv μ t) q := by rw [hf 197 (by omega)]; exact (htr q hq.1 hq.2).2
        refine vc_X8_weighEnd_43 ht ?_
        rw [e7, m2]
        refine ⟨rr (by omega), fun c => absurd c (by omega), fun _ => ⟨rr (by omega), fun c => absurd c hq0, fun _ => ⟨rr (by omega), fun c => absurd c (by omega), fun _ => ⟨by omega, rr (by omega), vc_X8_weighEnd_76 ht ?_⟩⟩⟩⟩
        have f1 : ∀ z : Int, z ≠ 195 → updm m 195 2 (A * brV (tv μ t) q) z = μ z := fun z hz => by rw [ru_ne hz]; exact hf z hz
        have g1 : ∀ j : Int, j ≠ 2 → j ≠ 3 → updm m 195 2 (A * brV (tv μ t) q) 195 j = μ 195 j := fun j j2 j3 => by rw [ru_eq, r1_ne j2]; exact hj' j j2 j3
        have x2 : updm m 195 2 (A * brV (tv μ t) q) 195 2 = A * brV (tv μ t) q := by rw [ru_eq, r1_eq]
        have x3 : updm m 195 2 (A * brV (tv μ t) q) 195 3 = B := by rw [ru_eq, r1_ne (by omega), m3]
        generalize updm m 195 2 (A * brV (tv μ t) q) = m1 at f1 g1 x2 x3 ⊢
        have e6 : m1 196 q = parV (tv μ t) q := by rw [f1 196 (by omega)]; exact (htr q hq.1 hq.2).1
        have ebs : F_X8_branchesAt 195 t (parV (tv μ t) q) m1 = bsV (tv μ t) (parV (tv μ t) q) := by
          unfold F_X8_branchesAt bsM
          rw [f1 196 (by omega), f1 197 (by omega), f1 t (by omega)]
          exact bsM_eq htr _
        rw [e6, ebs, x3]
        refine ⟨by omega, ⟨rfl, ht, by rw [f1 t (by omega)]; exact hp, fun a a0 a1 => ?_, rr (by omega)⟩, rr (by omega), vc_X8_weighEnd_98 ht ?_⟩
        · rw [f1 t (by omega)] at a1
          rw [f1 196 (by omega), (htr a a0 a1).1]
          have := par_in ok a
          exact rr (by omega)
        · have hg := gcd_div pA pB
          have f2 : ∀ z : Int, z ≠ 195 → updm m1 195 3 (B * bsV (tv μ t) (parV (tv μ t) q)) z = μ z := fun z hz => by rw [ru_ne hz]; exact f1 z hz
          have g2 : ∀ j : Int, j ≠ 2 → j ≠ 3 → updm m1 195 3 (B * bsV (tv μ t) (parV (tv μ t) q)) 195 j = μ 195 j := fun j j2 j3 => by rw [ru_eq, r1_ne j3]; exact g1 j j2 j3
          have y2 : updm m1 195 3 (B * bsV (tv μ t) (parV (tv μ t) q)) 195 2 = A * brV (tv μ t) q := by rw [ru_eq, r1_ne (by omega), x2]
          have y3 : updm m1 195 3 (B * bsV (tv μ t) (parV (tv μ t) q)) 195 3 = B * bsV (tv μ t) (parV (tv μ t) q) := by rw [ru_eq, r1_eq]
          generalize updm m1 195 3 (B * bsV (tv μ t) (parV (tv μ t) q)) = m2 at f2 g2 y2 y3 ⊢
          have hw' : weN (tv μ t) k (parV (tv μ t) q) (A * brV (tv μ t) q / gcdI (A * brV (tv μ t) q) (B * bsV (tv μ t) (parV (tv μ t) q))) (B * bsV (tv μ t) (parV (tv μ t) q) / gcdI (A * brV (tv μ t) q) (B * bsV (tv μ t) (parV (tv μ t) q))) = weV (tv μ t) p := by
            rw [← hw]
            show _ = weN (tv μ t) (k + 1) q A B
            rw [weN_s, if_neg hq0]
          have last : ∀ (A' B' : Int) (m3 : Mem), A' = A * brV (tv μ t) q / gcdI (A * brV (tv μ t) q) (B * bsV (tv μ t) (parV (tv μ t) q)) → B' = B * bsV (tv μ t) (parV (tv μ t) q) / gcdI (A * brV (tv μ t) q) (B * bsV (tv μ t) (parV (tv μ t) q)) → (∀ z : Int, z ≠ 195 → m3 z = μ z) → (∀ j : Int, j ≠ 2 → j ≠ 3 → m3 195 j = μ 195 j) → m3 195 2 = A' → m3 195 3 = B' → V_X8_weighEnd R 140 [(0, kR 195), (1, kR t), (3, kI 1), (4, kI q), (5, kI i)] m3 := by
            intro A' B' m3 hA' hB' f3 g3 z2 z3
            have e6' : m3 196 q = parV (tv μ t) q := by rw [f3 196 (by omega)]; exact (htr q hq.1 hq.2).1
            refine vc_X8_weighEnd_140 ht ⟨by omega, ?_⟩
            rw [e6']
            exact ih (i + 1) (parV (tv μ t) q) A' B' m3 (by omega) (by omega) hqp (by rw [hA']; omega) (by rw [hB']; omega) (fun h => by rw [hB']; have := eB2 h; omega) f3 g3 z2 z3 (by rw [hA', hB']; exact hw')
          unfold P_X10_commonDivisor F_X10_commonDivisor
          rw [y2, y3]
          have t1 : Int.tdiv (A * brV (tv μ t) q) (gcdI (A * brV (tv μ t) q) (B * bsV (tv μ t) (parV (tv μ t) q))) = A * brV (tv μ t) q / gcdI (A * brV (tv μ t) q) (B * bsV (tv μ t) (parV (tv μ t) q)) := Int.tdiv_eq_ediv_of_nonneg (by omega)
          have t2 : Int.tdiv (B * bsV (tv μ t) (parV (tv μ t) q)) (gcdI (A * brV (tv μ t) q) (B * bsV (tv μ t) (parV (tv μ t) q))) = B * bsV (tv μ t) (parV (tv μ t) q) / gcdI (A * brV (tv μ t) q) (B * bsV (tv μ t) (parV (tv μ t) q)) := Int.tdiv_eq_ediv_of_nonneg (by omega)
          rw [t1]
          refine ⟨by omega, rl (by omega), fun c => ?_, fun c => ⟨⟨rl (by omega), rl (by omega), by omega⟩, vc_X8_weighEnd_129 ht ?_⟩⟩
          · have eg : gcdI (A * brV (tv μ t) q) (B * bsV (tv μ t) (parV (tv μ t) q)) = 1 := by omega
            exact last _ _ m2 (by rw [eg, Int.ediv_one]) (by rw [eg, Int.ediv_one]) f2 g2 y2 y3
          · rw [ru_eq, r1_ne (by omega), y3, t2]
            refine ⟨⟨rl (by omega), rl (by omega), by omega⟩, last _ _ _ rfl rfl (fun z hz => by rw [ru_ne hz, ru_ne hz]; exact f2 z hz) (fun j j2 j3 => by rw [ru_eq, r1_ne j3, ru_eq, r1_ne j2]; exact g2 j j2 j3) (by rw [ru_eq, r1_ne (by omega), ru_eq, r1_eq]) (by rw [ru_eq, r1_eq])⟩
  -- the start
  have e0 : ∀ m : Mem, (∀ z : Int, z ≠ 195 → m z = μ z) → (∀ j : Int, j ≠ 2 → j ≠ 3 → m 195 j = μ 195 j) → m 195 2 = 0 → weV (tv μ t) p = (0, 1) → V_X8_weighEnd R 32 [(0, kR 195), (1, kR t), (2, kI p), (3, kI 0)] m := by
    intro m hf hjj m2 hw
    refine vc_X8_weighEnd_32 ht (vc_X8_weighEnd_37 ht (vc_X8_weighEnd_43 ht ?_))
    have fin : R (updm m 195 3 1) none := hR _ ⟨⟨by rw [ru_eq, r1_ne (by omega), m2, hw], by rw [ru_eq, r1_eq, hw]⟩, fun j j2 j3 => by rw [ru_eq, r1_ne j3]; exact hjj j j2 j3, fun z hz => by rw [ru_ne hz]; exact hf z hz⟩
    exact ⟨rr (by omega), fun c => absurd c (by omega), fun _ => ⟨rr (by omega), fun _ => fin, fun _ => ⟨rr (by omega), fun _ => fin, fun c => absurd rfl c⟩⟩⟩
  refine vc_X8_weighEnd_0 ht ⟨rr (by omega), fun hp0 => ?_, fun hp0 => ⟨⟨⟨ht, ok⟩, by omega⟩, ?_⟩⟩
  · exact e0 _ (fun z hz => ru_ne hz) (fun j j2 _ => by rw [ru_eq, r1_ne j2]) (by rw [ru_eq, r1_eq]) (by unfold weV; rw [if_neg (fun q => q.1 hp0)])
  · have hl := lanesV_bd ok (a := p)
    unfold F_X7_lanesAt
    refine ⟨rr (by omega), fun c => ?_, fun c => vc_X8_weighEnd_32 ht (vc_X8_weighEnd_37 ht ?_)⟩
    · exact e0 _ (fun z hz => ru_ne hz) (fun j j2 _ => by rw [ru_eq, r1_ne j2]) (by rw [ru_eq, r1_eq]) (by unfold weV; rw [if_neg (fun q => c q.2)])
    · exact key 8 0 p 1 1 _ (by omega) (by omega) hpp (by show (1 : Int) ≤ 1 ∧ (1 : Int) ≤ pw 160 0; exact ⟨by omega, (pw160 (by omega) (by omega)).1⟩) (by omega) (fun _ => (pw160 (by omega) (by omega)).1) (fun z hz => by rw [ru_ne hz, ru_ne hz]) (fun j j2 j3 => by rw [ru_eq, r1_ne j3, ru_eq, r1_ne j2]) (by rw [ru_eq, r1_ne (by omega), ru_eq, r1_eq]) (by rw [ru_eq, r1_eq]) (by unfold weV; rw [if_pos ⟨hp0, by omega⟩])
theorem ct_X8_weighEnd : Ct mX8_weighEnd 2 45 0 0 (nrmS S_X8_weighEnd) := by
  refine ct_vm (own := RX8) (by decide +kernel) rfl ?_ ?_
  · intro as μ Q hS
    unfold S_X8_weighEnd at hS
    split at hS
    · exact Nat.le_of_ble_eq_true rfl
    · exact hS.elim
  · intro as μ R hS
    unfold S_X8_weighEnd at hS
    split at hS
    · exact body_X8_weighEnd hS.1 hS.2
    · exact hS.elim
/-- both rounds: the branches that leave the way, there and back -/
def twN (v : TV) : Nat → Int → Int
  | 0, _ => 0
  | k + 1, q => if q = 0 then 0 else 2 * (bsV v (parV v q) - brV v q) + twN v k (parV v q)
theorem twN_s {v : TV} {k : Nat} {q : Int} : twN v (k + 1) q = if q = 0 then 0 else 2 * (bsV v (parV v q) - brV v q) + twN v k (parV v q) := rfl
def P_X8_twiceRound (o t p : Int) (μ : Mem) : Prop := o = 195 ∧ TB μ t ∧ WY μ t ∧ joined (tv μ t) ∧ TreeR (tv μ t) μ ∧ (0 ≤ p ∧ p < tv μ t 0 0)
def F_X8_twiceRound (_ t p : Int) (μ : Mem) : Int := 2 * wayV (tv μ t) 0 p + twN (tv μ t) 8 p
def S_X8_twiceRound : S0t := fun as μ Q => match as with
  | [(2, x0), (2, x1), (0, x2)] => P_X8_twiceRound x0 x1 x2 μ ∧ Q μ (some (kI (F_X8_twiceRound x0 x1 x2 μ)))
  | _ => False
theorem mono_X8_twiceRound : Mono S_X8_twiceRound := by
  intro as μ Q Q' h hS
  unfold S_X8_twiceRound at hS ⊢
  split at hS
  · exact ⟨hS.1, h _ _ hS.2⟩
  · exact hS.elim
def iX8_twiceRound : Inf := (kX8_twiceRound, fTX8, pTX8, cTX8, lTX8, sTX8, [(46, 0, 2, 8, S_X8_branchesAt)])
theorem ok_X8_twiceRound : infOK iX8_twiceRound mX8_twiceRound RX8 1 24 := ⟨kkX8_twiceRound, fTX8_ok, pTX8_ok _, cTX8_ok, lTX8_ok, sTX8_ok, c_cons ⟨mX8_branchesAt, 0, 0, ct_X8_branchesAt, mmX8_branchesAt, vvX8_branchesAt, lkX8_46, ⟨by decide, by decide⟩, ⟨_, _, rfl⟩, by decide, mono_X8_branchesAt⟩ (c_nil)⟩
theorem mt_X8_twiceRound : mtOK [] RX8 1 24 := mt_nil
abbrev V_X8_twiceRound (R : Mem → Option AV → Prop) (pc : Nat) (lc : List (Nat × AV)) (μ : Mem) : Prop := VM mX8_twiceRound RX8 1 24 R pc lc [] μ
set_option maxRecDepth 20000 in
theorem vc_X8_twiceRound_0 {R : Mem → Option AV → Prop} {p t : Int} {μ : Mem} (ht : isT t) (H : (0 ≤ p ∧ p < 64) ∧ V_X8_twiceRound R 15 [(0, kR 195), (1, kR t), (3, kI (2 * (μ (t + 2) p))), (4, kI p), (5, kI 0)] μ) : V_X8_twiceRound R 0 [(0, kR 195), (1, kR t), (2, kI p)] μ := by
  refine vm_step2 mt_X8_twiceRound ok_X8_twiceRound [(15, [0, 1, 3, 4, 5])] 1000 ?_
  show isC t 7 ∧ inA (t + 2) 0 p ∧ V_X8_twiceRound R 15 [(0, kR 195), (1, kR t), (3, kI (2 * (μ (t + 2) p))), (4, kI p), (5, kI 0)] μ
  exact ⟨isT_C ht, ⟨isArr.in (T_ways ht) H.1.1 H.1.2, H.2⟩⟩
set_option maxRecDepth 20000 in
theorem vc_X8_twiceRound_15 {R : Mem → Option AV → Prop} {sum q i t : Int} {μ : Mem} (ht : isT t) (H : r32 i ∧ (((8 : Int) ≤ i) → R μ (some (kI sum))) ∧ (¬ ((8 : Int) ≤ i) → r32 q ∧ ((q = 0) → R μ (some (kI sum))) ∧ (¬ (q = 0) → (0 ≤ q ∧ q < 8) ∧ P_X8_branchesAt 195 t (μ 196 q) μ ∧ (0 ≤ q ∧ q < 8) ∧ (0 ≤ q ∧ q < 8) ∧ V_X8_twiceRound R 15 [(0, kR 195), (1, kR t), (3, kI (sum + (2 * ((F_X8_branchesAt 195 t (μ 196 q) μ) - (μ 197 q))))), (4, kI (μ 196 q)), (5, kI (i + 1))] μ))) : V_X8_twiceRound R 15 [(0, kR 195), (1, kR t), (3, kI sum), (4, kI q), (5, kI i)] μ := by
  refine vm_step2 mt_X8_twiceRound ok_X8_twiceRound [(15, [0, 1, 3, 4, 5])] 1000 ?_
  show (r32 i ∧ r32 (8 : Int)) ∧ (((8 : Int) ≤ i) → R μ (some (kI sum))) ∧ (¬ ((8 : Int) ≤ i) → r32 q ∧ ((q = 0) → R μ (some (kI sum))) ∧ (¬ (q = 0) → isC 195 8 ∧ inA 196 0 q ∧ isC 195 8 ∧ P_X8_branchesAt 195 t (μ 196 q) μ ∧ isC 195 8 ∧ inA 197 0 q ∧ isC 195 8 ∧ inA 196 0 q ∧ V_X8_twiceRound R 15 [(0, kR 195), (1, kR t), (3, kI (sum + (2 * ((F_X8_branchesAt 195 t (μ 196 q) μ) - (μ 197 q))))), (4, kI (μ 196 q)), (5, kI (i + 1))] μ))
  exact ⟨⟨H.1, by unfold r32; omega⟩, fun hc2 => (H.2.1 hc2), fun hc2 => ⟨(H.2.2 hc2).1, fun hc1 => ((H.2.2 hc2).2.1 hc1), fun hc1 => ⟨c_195, ⟨isArr.in a_196 ((H.2.2 hc2).2.2 hc1).1.1 ((H.2.2 hc2).2.2 hc1).1.2, ⟨c_195, ((H.2.2 hc2).2.2 hc1).2.1, ⟨c_195, ⟨isArr.in a_197 ((H.2.2 hc2).2.2 hc1).2.2.1.1 ((H.2.2 hc2).2.2 hc1).2.2.1.2, ⟨c_195, ⟨isArr.in a_196 ((H.2.2 hc2).2.2 hc1).2.2.2.1.1 ((H.2.2 hc2).2.2 hc1).2.2.2.1.2, ((H.2.2 hc2).2.2 hc1).2.2.2.2⟩⟩⟩⟩⟩⟩⟩⟩⟩
theorem body_X8_twiceRound {o t p : Int} {μ : Mem} {R : Mem → Option AV → Prop} (h : P_X8_twiceRound o t p μ) (hR : R μ (some (kI (F_X8_twiceRound o t p μ)))) : V_X8_twiceRound R 0 [(0, kR o), (1, kR t), (2, kI p)] μ := by
  obtain ⟨rfl, ⟨ht, ok⟩, hw, hj, htr, hpp⟩ := h
  have hp : 2 ≤ μ t 1 ∧ μ t 1 ≤ 8 := ok.1
  have hpe : tv μ t 0 0 = μ t 1 := rfl
  refine vc_X8_twiceRound_0 ht ?_
  rw [e8z hw (by omega) hpp.1 hpp.2]
  refine ⟨by omega, ?_⟩
  have key : ∀ (k : Nat) (i q s : Int), i + k = 8 → 0 ≤ i → (0 ≤ q ∧ q < μ t 1) → s + twN (tv μ t) k q = F_X8_twiceRound 195 t p μ → V_X8_twiceRound R 15 [(0, kR 195), (1, kR t), (3, kI s), (4, kI q), (5, kI i)] μ := by
    intro k
    induction k with
    | zero =>
      intro i q s hik i0 hq hs
      refine vc_X8_twiceRound_15 ht ⟨rr (by omega), fun _ => r_eq hR ?_, fun c => absurd (show (8 : Int) ≤ i by omega) c⟩
      rw [← hs]
      show s + 0 = s
      omega
    | succ k ih =>
      intro i q s hik i0 hq hs
      by_cases hq0 : q = 0
      · refine vc_X8_twiceRound_15 ht ⟨rr (by omega), fun c => absurd c (by omega), fun _ => ⟨rr (by omega), fun _ => r_eq hR ?_, fun c => absurd hq0 c⟩⟩
        rw [← hs]
        unfold twN
        rw [if_pos hq0]
        omega
      · have hqp := par_in ok q
        have e6 := (htr q hq.1 hq.2).1
        have e7 := (htr q hq.1 hq.2).2
        have ebs : F_X8_branchesAt 195 t (parV (tv μ t) q) μ = bsV (tv μ t) (parV (tv μ t) q) := bsM_eq htr _
        refine vc_X8_twiceRound_15 ht ?_
        rw [e6, e7, ebs]
        refine ⟨rr (by omega), fun c => absurd c (by omega), fun _ => ⟨rr (by omega), fun c => absurd c hq0, fun _ => ⟨by omega, ⟨rfl, ht, hp, fun a a0 a1 => ?_, rr (by omega)⟩, by omega, by omega, ih (i + 1) _ _ (by omega) (by omega) hqp ?_⟩⟩⟩
        · rw [(htr a a0 a1).1]
          have := par_in ok a
          exact rr (by omega)
        · rw [← hs]
          show _ = s + twN (tv μ t) (k + 1) q
          rw [twN_s, if_neg hq0]
          omega
  exact key 8 0 p _ (by omega) (by omega) hpp rfl
theorem ct_X8_twiceRound : Ct mX8_twiceRound 1 24 0 0 (nrmS S_X8_twiceRound) := by
  refine ct_vm (own := RX8) (by decide +kernel) rfl ?_ ?_
  · intro as μ Q hS
    unfold S_X8_twiceRound at hS
    split at hS
    · exact Nat.le_of_ble_eq_true rfl
    · exact hS.elim
  · intro as μ R hS
    unfold S_X8_twiceRound at hS
    split at hS
    · exact body_X8_twiceRound hS.1 hS.2
    · exact hS.elim
