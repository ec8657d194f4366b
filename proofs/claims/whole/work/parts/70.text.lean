/-! texts: tokens, the first place where no text goes on, lines -/
theorem t_135 : isT 135 := by unfold isT towns; decide
def runN (q : Int → Bool) (n : Int) : Nat → Int → Int
  | 0, p => p
  | k + 1, p => if p < n ∧ q p = true then runN q n k (p + 1) else p
/-- the end of a row that begins at p -/
def runE (q : Int → Bool) (p n : Int) : Int := runN q n (n - p).toNat p
theorem runE_s {q : Int → Bool} {p n : Int} (h : p < n) (hq : q p = true) : runE q p n = runE q (p + 1) n := by
  unfold runE
  have e : (n - p).toNat = (n - (p + 1)).toNat + 1 := by omega
  rw [e]
  show (if p < n ∧ q p = true then runN q n (n - (p + 1)).toNat (p + 1) else p) = _
  rw [if_pos ⟨h, hq⟩]
theorem runE_e {q : Int → Bool} {p n : Int} (h : ¬ (p < n ∧ q p = true)) : runE q p n = p := by
  unfold runE
  cases (n - p).toNat with
  | zero => rfl
  | succ k =>
    show (if p < n ∧ q p = true then runN q n k (p + 1) else p) = p
    rw [if_neg h]
theorem runE_in {q : Int → Bool} {n : Int} : ∀ (k : Nat) (p : Int), n - p ≤ k → p ≤ n → (p ≤ runE q p n ∧ runE q p n ≤ n) ∧ (∀ i, p ≤ i → i < runE q p n → q i = true) ∧ (runE q p n < n → q (runE q p n) = false)
  | 0, p, h0, h1 => by
    rw [runE_e (fun c => by omega)]
    exact ⟨by omega, fun i i0 i1 => by omega, fun c => by omega⟩
  | k + 1, p, h0, h1 => by
    by_cases c : p < n ∧ q p = true
    · rw [runE_s c.1 c.2]
      obtain ⟨a1, a2, a3⟩ := runE_in (q := q) (n := n) k (p + 1) (by omega) (by omega)
      refine ⟨by omega, fun i i0 i1 => ?_, a3⟩
      by_cases e : i = p
      · rw [e]; exact c.2
      · exact a2 i (by omega) i1
    · rw [runE_e c]
      refine ⟨by omega, fun i i0 i1 => by omega, fun c2 => ?_⟩
      cases hq : q p
      · rfl
      · exact absurd ⟨c2, hq⟩ c
theorem runE_bd {q : Int → Bool} {p n : Int} (h : p ≤ n) : (p ≤ runE q p n ∧ runE q p n ≤ n) ∧ (∀ i, p ≤ i → i < runE q p n → q i = true) ∧ (runE q p n < n → q (runE q p n) = false) := runE_in (n - p).toNat p (by omega) h
theorem runE_congr {q q' : Int → Bool} {n : Int} (h : ∀ i, 0 ≤ i → i < n → q i = q' i) : ∀ (k : Nat) (p : Int), n - p ≤ k → 0 ≤ p → runE q p n = runE q' p n
  | 0, p, h0, h1 => by rw [runE_e (fun c => by omega), runE_e (fun c => by omega)]
  | k + 1, p, h0, h1 => by
    by_cases c : p < n ∧ q p = true
    · rw [runE_s c.1 c.2, runE_s c.1 (by rw [← h p h1 c.1]; exact c.2)]
      exact runE_congr h k (p + 1) (by omega) (by omega)
    · rw [runE_e c, runE_e (fun q2 => c ⟨q2.1, by rw [h p h1 q2.1]; exact q2.2⟩)]
def isLet (c : Int) : Bool := decide (97 ≤ c ∧ c ≤ 122)
def isDig (c : Int) : Bool := decide (48 ≤ c ∧ c ≤ 57)
def isBl (c : Int) : Bool := decide (c = 32 ∨ c = 10)
def endT (tx : Int → Int) (p n : Int) : Int := if isLet (tx p) = true then runE (fun i => isLet (tx i)) (p + 1) n else if isDig (tx p) = true then runE (fun i => isDig (tx i)) (p + 1) n else p + 1
def sayT (tx : Int → Int) (p q w : Int) : Bool := decide (q - p = (SN w.toNat : Int)) && allV (fun i => decide (tx (p + i) = SV w.toNat i)) (SN w.toNat)
def kindT (tx : Int → Int) (p q : Int) : Int := if isDig (tx p) = true then (if q - p ≤ 4 then 2 else 10) else if tx p = 59 then 1 else if sayT tx p q 1 = true then 3 else if sayT tx p q 2 = true then 4 else if sayT tx p q 3 = true then 5 else if sayT tx p q 4 = true then 6 else if sayT tx p q 5 = true then 7 else if sayT tx p q 6 = true then 8 else if sayT tx p q 7 = true then 9 else 10
def valT (tx : Int → Int) (p q : Int) : Int := fold (fun x i => x * 10 + (tx (p + i) - 48)) 0 (max 0 (min (q - p) 4))
theorem kindT_bd {tx : Int → Int} {p q : Int} : 1 ≤ kindT tx p q ∧ kindT tx p q ≤ 10 := by
  unfold kindT
  repeat' split
  all_goals omega
def skpT (tx : Int → Int) (p n : Int) : Int := runE (fun i => isBl (tx i)) p n
def nxtT (tx : Int → Int) (n p : Int) : Int := if skpT tx p n < n then endT tx (skpT tx p n) n else n
/-- where the i-th token may begin; where it begins; what it is; its number -/
def posT (tx : Int → Int) (n i : Int) : Int := fold (fun p _ => nxtT tx n p) 0 i
def stT (tx : Int → Int) (n i : Int) : Int := skpT tx (posT tx n i) n
def KT (tx : Int → Int) (n i : Int) : Int := if stT tx n i < n then kindT tx (stT tx n i) (endT tx (stT tx n i) n) else 0
def VT (tx : Int → Int) (n i : Int) : Int := valT tx (stT tx n i) (endT tx (stT tx n i) n)
theorem posT_s {tx : Int → Int} {n i : Int} (h : 0 ≤ i) : posT tx n (i + 1) = nxtT tx n (posT tx n i) := fold_s h
theorem endT_bd {tx : Int → Int} {p n : Int} (h : p < n) : p + 1 ≤ endT tx p n ∧ endT tx p n ≤ n := by
  unfold endT
  have h1 := (runE_bd (q := fun i => isLet (tx i)) (p := p + 1) (n := n) (by omega)).1
  have h2 := (runE_bd (q := fun i => isDig (tx i)) (p := p + 1) (n := n) (by omega)).1
  split
  · exact h1
  · split
    · exact h2
    · omega
theorem skp_bd {tx : Int → Int} {p n : Int} (h : p ≤ n) : p ≤ skpT tx p n ∧ skpT tx p n ≤ n := (runE_bd h).1
theorem posT_bd {tx : Int → Int} {n : Int} (hn : 0 ≤ n) : ∀ i : Int, 0 ≤ i → 0 ≤ posT tx n i ∧ posT tx n i ≤ n := by
  refine nat_ind ⟨Int.le_refl _, hn⟩ (fun i i0 ih => ?_)
  rw [posT_s i0]
  have h1 := skp_bd (tx := tx) ih.2
  unfold nxtT
  split
  · rename_i c
    have := endT_bd (tx := tx) c
    omega
  · omega
theorem stT_bd {tx : Int → Int} {n i : Int} (hn : 0 ≤ n) (i0 : 0 ≤ i) : 0 ≤ stT tx n i ∧ stT tx n i ≤ n := by
  have h1 := posT_bd (tx := tx) hn i i0
  have h2 := skp_bd (tx := tx) h1.2
  unfold stT; omega
theorem stT_end {tx : Int → Int} {n i : Int} (hn : 0 ≤ n) (i0 : 0 ≤ i) (h : ¬ stT tx n i < n) : ∀ j : Int, i ≤ j → stT tx n j = n := by
  intro j hj
  have key := nat_ind (P := fun d => stT tx n (i + d) = n) (by
    rw [Int.add_zero]
    have := stT_bd (tx := tx) hn i0
    omega) (fun d d0 ih => by
    have e : i + (d + 1) = i + d + 1 := by omega
    unfold stT at ih ⊢
    rw [e, posT_s (by omega)]
    unfold nxtT
    rw [if_neg (by omega)]
    have := skp_bd (tx := tx) (Int.le_refl n)
    omega) (j - i) (by omega)
  have e : i + (j - i) = j := by omega
  rw [e] at key
  exact key
/-- the tokens go forward -/
theorem stT_lt {tx : Int → Int} {n i : Int} (hn : 0 ≤ n) (i0 : 0 ≤ i) (h : stT tx n i < n) : stT tx n i < stT tx n (i + 1) := by
  have h1 := posT_s (tx := tx) (n := n) i0
  have h2 := endT_bd (tx := tx) h
  have h3 := posT_bd (tx := tx) hn (i + 1) (by omega)
  have h4 := skp_bd (tx := tx) h3.2
  have e : posT tx n (i + 1) = endT tx (stT tx n i) n := by rw [h1]; unfold nxtT; exact if_pos h
  unfold stT at h h2 e ⊢
  omega
/-! the first place with which no text goes on; -1 without -/
def nbK (k : Int) : Int := if k = 3 then 1 else if k = 4 then 3 else if k = 5 then 2 else if k = 6 then 2 else if k = 7 then 2 else if k = 8 then 1 else if k = 9 then 1 else 0
theorem nbK_bd {k : Int} : 0 ≤ nbK k ∧ nbK k ≤ 3 := by
  unfold nbK
  repeat' split
  all_goals omega
def lineQ (K : Int → Int) (p i : Int) : Bool := !decide (K (p + 1 + i) = (if i < nbK (K p) then 2 else 1))
def lineE (K : Int → Int) (p : Int) : Int := if (p = 0 ∧ K p ≠ 3) ∨ (p ≠ 0 ∧ K p = 3) ∨ nbK (K p) = 0 then p else if frst (lineQ K p) (nbK (K p) + 1) < 0 then -1 else p + 1 + frst (lineQ K p) (nbK (K p) + 1)
def gramN (K : Int → Int) : Nat → Int → Int
  | 0, _ => -1
  | f + 1, p => if 0 < p ∧ K p = 0 then -1 else if 0 ≤ lineE K p then lineE K p else gramN K f (p + 2 + nbK (K p))
/-! what the lines tell: the fault and its place, the town -/
def setV (v : TV) (f : Nat) (a x : Int) : TV := fun g => if g = f then upd1 (v f) a x else v g
def setP (v : TV) (f : Nat) (x : Int) : TV := fun g => if g = f then fun _ => x else v g
def plcV (S V : Int → Int) (p : Int) (v : TV) (f : Nat) (lo hi : Int) : (Int × Int) × TV := if ¬ (0 ≤ V (p + 1) ∧ V (p + 1) < v 0 0) then ((2, S (p + 1)), v) else if ¬ (lo ≤ V (p + 2) ∧ V (p + 2) ≤ hi) then ((2, S (p + 2)), v) else ((0, 0), setV v f (V (p + 1)) (V (p + 2)))
def onlV (S V : Int → Int) (p : Int) (v : TV) (f : Nat) (hi : Int) : (Int × Int) × TV := if ¬ (0 ≤ V (p + 1) ∧ V (p + 1) ≤ hi) then ((2, S (p + 1)), v) else ((0, 0), setP v f (V (p + 1)))
def lanV (S V : Int → Int) (p : Int) (v : TV) : (Int × Int) × TV := if 20 ≤ v 1 0 ∨ ((0 ≤ V (p + 1) ∧ V (p + 1) < v 0 0) ∧ (0 ≤ V (p + 2) ∧ V (p + 2) < v 0 0) ∧ v 7 (8 * V (p + 1) + V (p + 2)) ≠ 0) then ((3, S p), v) else if ¬ (0 ≤ V (p + 1) ∧ V (p + 1) < v 0 0) then ((2, S (p + 1)), v) else
  if ¬ (0 ≤ V (p + 2) ∧ V (p + 2) < v 0 0) ∨ V (p + 1) = V (p + 2) then ((2, S (p + 2)), v) else if ¬ (1 ≤ V (p + 3) ∧ V (p + 3) ≤ 20) then ((2, S (p + 3)), v) else ((0, 0), addLV v (V (p + 1)) (V (p + 2)) (V (p + 3)))
def lineV (K S V : Int → Int) (p : Int) (v : TV) : (Int × Int) × TV := if K p = 4 then lanV S V p v else if K p = 5 then plcV S V p v 4 0 99 else if K p = 6 then plcV S V p v 5 1 12 else if K p = 7 then plcV S V p v 6 1 99 else if K p = 8 then onlV S V p v 2 999 else onlV S V p v 3 12
def linesV (K S V : Int → Int) : Nat → Int → Int → TV → (Int × Int) × TV
  | 0, _, _, v => ((0, 0), v)
  | f + 1, p, ln, v => if K p = 0 then ((0, 0), v) else if 40 ≤ ln then ((3, S p), v) else if (lineV K S V p v).1.1 ≠ 0 then lineV K S V p v else linesV K S V f (p + 2 + nbK (K p)) (ln + 1) (lineV K S V p v).2
def endV (v : TV) (L : Int) : (Int × Int) × TV := if sm (v 4) (v 0 0) = 0 then ((4, L), v) else if ¬ (allV (fun a => decide (wayV v 0 a < 1000000)) (v 0 0) = true) then ((5, L), v) else if ¬ (allV (fun a => decide (lanesV v a * v 3 0 ≤ 12)) (v 0 0) = true) then ((6, L), v) else ((0, 0), v)
def textV (K S V : Int → Int) (L : Int) : (Int × Int) × TV := if 0 ≤ gramN K 502 0 then ((1, S (gramN K 502 0)), begV 2) else if V 1 < 2 ∨ 8 < V 1 then ((2, S 1), begV 2) else
  if (linesV K S V 502 3 0 (begV (V 1))).1.1 ≠ 0 then linesV K S V 502 3 0 (begV (V 1)) else endV (linesV K S V 502 3 0 (begV (V 1))).2 L
