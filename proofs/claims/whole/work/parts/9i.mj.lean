/-! the model reads a text -/
def TX (m : Mem) : Int → Int := byS (clip (m 201 2) (fun j => m 202 (10 + j)))
def TBm (m : Mem) : Prop := (0 ≤ m 201 2 ∧ m 201 2 ≤ 500) ∧ ∀ p : Int, 0 ≤ p → p < m 201 2 → 0 ≤ m 202 (10 + p) ∧ m 202 (10 + p) ≤ 255
theorem TX_at {m : Mem} {p : Int} (h0 : 0 ≤ p) (h1 : p < m 201 2) : TX m p = Int.bmod (m 202 (10 + p)) 256 := by
  have e : clip (m 201 2) (fun j => m 202 (10 + j)) p = m 202 (10 + p) := clip_in (f := fun j => m 202 (10 + j)) h0 h1
  show Int.bmod (clip (m 201 2) (fun j => m 202 (10 + j)) p) 256 = _
  rw [e]
theorem TX_frame {m μ : Mem} (h2 : m 201 2 = μ 201 2) (h : ∀ p : Int, 0 ≤ p → p < 500 → m 202 (10 + p) = μ 202 (10 + p)) (hb : TBm μ) : TX m = TX μ ∧ TBm m := by
  refine ⟨?_, by rw [h2]; exact hb.1, fun p p0 p1 => ?_⟩
  · unfold TX
    rw [h2, clip_congr (fun i i0 i1 => h i i0 (by have := hb.1; omega))]
  · rw [h2] at p1
    rw [h p p0 (by have := hb.1; omega)]
    exact hb.2 p p0 p1
def tokM (k : Int) : Int := if k = 0 then 0 else if k = 2 then 1 else if k = 1 then 2 else if k = 10 then 4 else 3
theorem tokM_at {k : Int} (h0 : 0 ≤ k) (h1 : k ≤ 10) : (0 ≤ tokM k ∧ tokM k ≤ 4) ∧ (tokM k = 0 ↔ k = 0) ∧ (tokM k = 1 ↔ k = 2) ∧ (tokM k = 2 ↔ k = 1) ∧ (tokM k = 3 ↔ 3 ≤ k ∧ k ≤ 9) := by
  unfold tokM
  by_cases a : k = 0
  · rw [if_pos a]; omega
  · rw [if_neg a]
    by_cases b : k = 2
    · rw [if_pos b]; omega
    · rw [if_neg b]
      by_cases c : k = 1
      · rw [if_pos c]; omega
      · rw [if_neg c]
        by_cases d : k = 10
        · rw [if_pos d]; omega
        · rw [if_neg d]; omega
/-- the token behind x -/
def kX (tx : Int → Int) (n x : Int) : Int := if skpT tx x n < n then kindT tx (skpT tx x n) (endT tx (skpT tx x n) n) else 0
def AdvX (tx : Int → Int) (n x : Int) (m : Mem) : Prop := m 201 4 = skpT tx x n ∧ m 201 3 = nxtT tx n x ∧ m 201 5 = tokM (kX tx n x) ∧ (3 ≤ kX tx n x → kX tx n x ≤ 9 → m 201 7 = kX tx n x - 2) ∧ (kX tx n x = 2 → m 201 6 = valT tx (skpT tx x n) (endT tx (skpT tx x n) n))
theorem byte_s {c : Int} (h0 : 0 ≤ c) (h1 : c ≤ 255) : (isLet (Int.bmod c 256) = isLet c) ∧ (isDig (Int.bmod c 256) = isDig c) ∧ (isBl (Int.bmod c 256) = isBl c) ∧ (Int.bmod c 256 = 59 ↔ c = 59) ∧ ((isLet c = true ∨ isDig c = true) → Int.bmod c 256 = c) := by
  have e : Int.bmod c 256 = if c < 128 then c else c - 256 := by
    unfold Int.bmod
    show (if c % 256 < (256 + 1) / 2 then c % 256 else c % 256 - 256) = _
    have m : c % 256 = c := Int.emod_eq_of_lt h0 (by omega)
    rw [m]
    by_cases q : c < 128
    · rw [if_pos q, if_pos (by omega)]
    · rw [if_neg q, if_neg (by omega)]
  rw [e]
  by_cases q : c < 128
  · rw [if_pos q]
    exact ⟨rfl, rfl, rfl, Iff.rfl, fun _ => rfl⟩
  · rw [if_neg q]
    unfold isLet isDig isBl
    refine ⟨?_, ?_, ?_, by omega, fun h => ?_⟩
    · rw [decide_eq_false (by omega), decide_eq_false (by omega)]
    · rw [decide_eq_false (by omega), decide_eq_false (by omega)]
    · rw [decide_eq_false (by omega), decide_eq_false (by omega)]
    · rcases h with h | h
      · have := of_decide_eq_true h; omega
      · have := of_decide_eq_true h; omega
/-- letters as a number -/
def hshT (tx : Int → Int) (p j : Int) : Int := fold (fun x i => 32 * x + tx (p + i) - 96) 0 j
theorem hshT_s {tx : Int → Int} {p j : Int} (h : 0 ≤ j) : hshT tx p (j + 1) = 32 * hshT tx p j + tx (p + j) - 96 := fold_s h
def wordN (v : Int) : Int := if v = 549489843 then 1 else if v = 394693 then 2 else if v = 109099109 then 3 else if v = 4583 then 4 else if v = 4391 then 5 else if v = 17377093 then 6 else if v = 442053 then 7 else 99
theorem hsh_bd {tx : Int → Int} {p n : Int} (h : ∀ i : Int, 0 ≤ i → i < n → isLet (tx (p + i)) = true) (n0 : 0 ≤ n) : 0 ≤ hshT tx p n ∧ hshT tx p n ≤ pw 32 n - 1 := by
  refine nat_ind (P := fun j => j ≤ n → 0 ≤ hshT tx p j ∧ hshT tx p j ≤ pw 32 j - 1) (fun _ => ⟨Int.le_refl 0, Int.le_refl 0⟩) (fun j j0 ih hj => ?_) n n0 (Int.le_refl n)
  have l := of_decide_eq_true (h j j0 (by omega))
  have := ih (by omega)
  rw [hshT_s j0, pw_s j0]
  omega
theorem hsh_1 {tx : Int → Int} {p : Int} : hshT tx p 1 = tx (p + 0) - 96 := by
  have := hshT_s (tx := tx) (p := p) (Int.le_refl 0)
  have e : hshT tx p 0 = 0 := rfl
  rw [e] at this
  have e2 : (0 : Int) + 1 = 1 := rfl
  rw [e2] at this
  omega
theorem hsh_2 {tx : Int → Int} {p : Int} : hshT tx p 2 = 32 * hshT tx p 1 + tx (p + 1) - 96 := hshT_s (j := 1) (by omega)
theorem hsh_3 {tx : Int → Int} {p : Int} : hshT tx p 3 = 32 * hshT tx p 2 + tx (p + 2) - 96 := hshT_s (j := 2) (by omega)
theorem hsh_4 {tx : Int → Int} {p : Int} : hshT tx p 4 = 32 * hshT tx p 3 + tx (p + 3) - 96 := hshT_s (j := 3) (by omega)
theorem hsh_5 {tx : Int → Int} {p : Int} : hshT tx p 5 = 32 * hshT tx p 4 + tx (p + 4) - 96 := hshT_s (j := 4) (by omega)
theorem hsh_6 {tx : Int → Int} {p : Int} : hshT tx p 6 = 32 * hshT tx p 5 + tx (p + 5) - 96 := hshT_s (j := 5) (by omega)
/-- the keywords by their numbers -/
theorem word_say {tx : Int → Int} {p q : Int} (hq : p < q ∧ q ≤ p + 6) (hl : ∀ i : Int, p ≤ i → i < q → isLet (tx i) = true) :
  (sayT tx p q 1 = true ↔ hshT tx p (q - p) = 549489843) ∧ (sayT tx p q 2 = true ↔ hshT tx p (q - p) = 394693) ∧ (sayT tx p q 3 = true ↔ hshT tx p (q - p) = 109099109) ∧ (sayT tx p q 4 = true ↔ hshT tx p (q - p) = 4583) ∧ (sayT tx p q 5 = true ↔ hshT tx p (q - p) = 4391) ∧ (sayT tx p q 6 = true ↔ hshT tx p (q - p) = 17377093) ∧ (sayT tx p q 7 = true ↔ hshT tx p (q - p) = 442053) := by
  have lt : ∀ i : Int, 0 ≤ i → i < q - p → 97 ≤ tx (p + i) ∧ tx (p + i) ≤ 122 := fun i i0 i1 => of_decide_eq_true (hl (p + i) (by omega) (by omega))
  have go : ∀ (w : Nat) (h : Int), (q - p = (SN w : Int) → (∀ i : Int, 0 ≤ i → i < (SN w : Int) → tx (p + i) = SV w i) → hshT tx p (q - p) = h) → (hshT tx p (q - p) = h → q - p = (SN w : Int) ∧ ∀ i : Int, 0 ≤ i → i < (SN w : Int) → tx (p + i) = SV w i) → (sayT tx p q (w : Int) = true ↔ hshT tx p (q - p) = h) := fun w h h1 h2 => by
    unfold sayT
    rw [show ((w : Int)).toNat = w by omega, Bool.and_eq_true, decide_eq_true_eq]
    constructor
    · intro ⟨a, b⟩
      exact h1 a (fun i i0 i1 => of_decide_eq_true ((allV_ok (by omega)).mp b i i0 i1))
    · intro a
      have := h2 a
      exact ⟨this.1, (allV_ok (by omega)).mpr (fun i i0 i1 => decide_eq_true (this.2 i i0 i1))⟩
  have n1 : (SN 1 : Int) = 6 := by decide +kernel
  have v1_0 : SV 1 0 = 112 := by decide +kernel
  have v1_1 : SV 1 1 = 108 := by decide +kernel
  have v1_2 : SV 1 2 = 97 := by decide +kernel
  have v1_3 : SV 1 3 = 99 := by decide +kernel
  have v1_4 : SV 1 4 = 101 := by decide +kernel
  have v1_5 : SV 1 5 = 115 := by decide +kernel
  have n2 : (SN 2 : Int) = 4 := by decide +kernel
  have v2_0 : SV 2 0 = 108 := by decide +kernel
  have v2_1 : SV 2 1 = 97 := by decide +kernel
  have v2_2 : SV 2 2 = 110 := by decide +kernel
  have v2_3 : SV 2 3 = 101 := by decide +kernel
  have n3 : (SN 3 : Int) = 6 := by decide +kernel
  have v3_0 : SV 3 0 = 99 := by decide +kernel
  have v3_1 : SV 3 1 = 104 := by decide +kernel
  have v3_2 : SV 3 2 = 97 := by decide +kernel
  have v3_3 : SV 3 3 = 110 := by decide +kernel
  have v3_4 : SV 3 4 = 99 := by decide +kernel
  have v3_5 : SV 3 5 = 101 := by decide +kernel
  have n4 : (SN 4 : Int) = 3 := by decide +kernel
  have v4_0 : SV 4 0 = 100 := by decide +kernel
  have v4_1 : SV 4 1 = 111 := by decide +kernel
  have v4_2 : SV 4 2 = 103 := by decide +kernel
  have n5 : (SN 5 : Int) = 3 := by decide +kernel
  have v5_0 : SV 5 0 = 100 := by decide +kernel
  have v5_1 : SV 5 1 = 105 := by decide +kernel
  have v5_2 : SV 5 2 = 103 := by decide +kernel
  have n6 : (SN 6 : Int) = 5 := by decide +kernel
  have v6_0 : SV 6 0 = 112 := by decide +kernel
  have v6_1 : SV 6 1 = 114 := by decide +kernel
  have v6_2 : SV 6 2 = 105 := by decide +kernel
  have v6_3 : SV 6 3 = 122 := by decide +kernel
  have v6_4 : SV 6 4 = 101 := by decide +kernel
  have n7 : (SN 7 : Int) = 4 := by decide +kernel
  have v7_0 : SV 7 0 = 109 := by decide +kernel
  have v7_1 : SV 7 1 = 111 := by decide +kernel
  have v7_2 : SV 7 2 = 118 := by decide +kernel
  have v7_3 : SV 7 3 = 101 := by decide +kernel
  have L : q - p = 1 ∨ q - p = 2 ∨ q - p = 3 ∨ q - p = 4 ∨ q - p = 5 ∨ q - p = 6 := by omega
  refine ⟨go 1 _ ?_ ?_, go 2 _ ?_ ?_, go 3 _ ?_ ?_, go 4 _ ?_ ?_, go 5 _ ?_ ?_, go 6 _ ?_ ?_, go 7 _ ?_ ?_⟩
  · intro e h
    rw [n1] at e h
    rw [e, hsh_6, hsh_5, hsh_4, hsh_3, hsh_2, hsh_1]
    have x0 := h 0 (by omega) (by omega)
    have x1 := h 1 (by omega) (by omega)
    have x2 := h 2 (by omega) (by omega)
    have x3 := h 3 (by omega) (by omega)
    have x4 := h 4 (by omega) (by omega)
    have x5 := h 5 (by omega) (by omega)
    omega
  · intro h
    rw [n1]
    rcases L with e | e | e | e | e | e
    · rw [e, hsh_1] at h
      have y0 := lt 0 (by omega) (by omega)
      omega
    · rw [e, hsh_2, hsh_1] at h
      have y0 := lt 0 (by omega) (by omega)
      have y1 := lt 1 (by omega) (by omega)
      omega
    · rw [e, hsh_3, hsh_2, hsh_1] at h
      have y0 := lt 0 (by omega) (by omega)
      have y1 := lt 1 (by omega) (by omega)
      have y2 := lt 2 (by omega) (by omega)
      omega
    · rw [e, hsh_4, hsh_3, hsh_2, hsh_1] at h
      have y0 := lt 0 (by omega) (by omega)
      have y1 := lt 1 (by omega) (by omega)
      have y2 := lt 2 (by omega) (by omega)
      have y3 := lt 3 (by omega) (by omega)
      omega
    · rw [e, hsh_5, hsh_4, hsh_3, hsh_2, hsh_1] at h
      have y0 := lt 0 (by omega) (by omega)
      have y1 := lt 1 (by omega) (by omega)
      have y2 := lt 2 (by omega) (by omega)
      have y3 := lt 3 (by omega) (by omega)
      have y4 := lt 4 (by omega) (by omega)
      omega
    · rw [e, hsh_6, hsh_5, hsh_4, hsh_3, hsh_2, hsh_1] at h
      have y0 := lt 0 (by omega) (by omega)
      have y1 := lt 1 (by omega) (by omega)
      have y2 := lt 2 (by omega) (by omega)
      have y3 := lt 3 (by omega) (by omega)
      have y4 := lt 4 (by omega) (by omega)
      have y5 := lt 5 (by omega) (by omega)
      refine ⟨e, fun i i0 i1 => ?_⟩
      rcases (by omega : i = 0 ∨ i = 1 ∨ i = 2 ∨ i = 3 ∨ i = 4 ∨ i = 5) with f | f | f | f | f | f <;> subst f <;> omega
  · intro e h
    rw [n2] at e h
    rw [e, hsh_4, hsh_3, hsh_2, hsh_1]
    have x0 := h 0 (by omega) (by omega)
    have x1 := h 1 (by omega) (by omega)
    have x2 := h 2 (by omega) (by omega)
    have x3 := h 3 (by omega) (by omega)
    omega
  · intro h
    rw [n2]
    rcases L with e | e | e | e | e | e
    · rw [e, hsh_1] at h
      have y0 := lt 0 (by omega) (by omega)
      omega
    · rw [e, hsh_2, hsh_1] at h
      have y0 := lt 0 (by omega) (by omega)
      have y1 := lt 1 (by omega) (by omega)
      omega
    · rw [e, hsh_3, hsh_2, hsh_1] at h
      have y0 := lt 0 (by omega) (by omega)
      have y1 := lt 1 (by omega) (by omega)
      have y2 := lt 2 (by omega) (by omega)
      omega
    · rw [e, hsh_4, hsh_3, hsh_2, hsh_1] at h
      have y0 := lt 0 (by omega) (by omega)
      have y1 := lt 1 (by omega) (by omega)
      have y2 := lt 2 (by omega) (by omega)
      have y3 := lt 3 (by omega) (by omega)
      refine ⟨e, fun i i0 i1 => ?_⟩
      rcases (by omega : i = 0 ∨ i = 1 ∨ i = 2 ∨ i = 3) with f | f | f | f <;> subst f <;> omega
    · rw [e, hsh_5, hsh_4, hsh_3, hsh_2, hsh_1] at h
      have y0 := lt 0 (by omega) (by omega)
      have y1 := lt 1 (by omega) (by omega)
      have y2 := lt 2 (by omega) (by omega)
      have y3 := lt 3 (by omega) (by omega)
      have y4 := lt 4 (by omega) (by omega)
      omega
    · rw [e, hsh_6, hsh_5, hsh_4, hsh_3, hsh_2, hsh_1] at h
      have y0 := lt 0 (by omega) (by omega)
      have y1 := lt 1 (by omega) (by omega)
      have y2 := lt 2 (by omega) (by omega)
      have y3 := lt 3 (by omega) (by omega)
      have y4 := lt 4 (by omega) (by omega)
      have y5 := lt 5 (by omega) (by omega)
      omega
  · intro e h
    rw [n3] at e h
    rw [e, hsh_6, hsh_5, hsh_4, hsh_3, hsh_2, hsh_1]
    have x0 := h 0 (by omega) (by omega)
    have x1 := h 1 (by omega) (by omega)
    have x2 := h 2 (by omega) (by omega)
    have x3 := h 3 (by omega) (by omega)
    have x4 := h 4 (by omega) (by omega)
    have x5 := h 5 (by omega) (by omega)
    omega
  · intro h
    rw [n3]
    rcases L with e | e | e | e | e | e
    · rw [e, hsh_1] at h
      have y0 := lt 0 (by omega) (by omega)
      omega
    · rw [e, hsh_2, hsh_1] at h
      have y0 := lt 0 (by omega) (by omega)
      have y1 := lt 1 (by omega) (by omega)
      omega
    · rw [e, hsh_3, hsh_2, hsh_1] at h
      have y0 := lt 0 (by omega) (by omega)
      have y1 := lt 1 (by omega) (by omega)
      have y2 := lt 2 (by omega) (by omega)
      omega
    · rw [e, hsh_4, hsh_3, hsh_2, hsh_1] at h
      have y0 := lt 0 (by omega) (by omega)
      have y1 := lt 1 (by omega) (by omega)
      have y2 := lt 2 (by omega) (by omega)
      have y3 := lt 3 (by omega) (by omega)
      omega
    · rw [e, hsh_5, hsh_4, hsh_3, hsh_2, hsh_1] at h
      have y0 := lt 0 (by omega) (by omega)
      have y1 := lt 1 (by omega) (by omega)
      have y2 := lt 2 (by omega) (by omega)
      have y3 := lt 3 (by omega) (by omega)
      have y4 := lt 4 (by omega) (by omega)
      omega
    · rw [e, hsh_6, hsh_5, hsh_4, hsh_3, hsh_2, hsh_1] at h
      have y0 := lt 0 (by omega) (by omega)
      have y1 := lt 1 (by omega) (by omega)
      have y2 := lt 2 (by omega) (by omega)
      have y3 := lt 3 (by omega) (by omega)
      have y4 := lt 4 (by omega) (by omega)
      have y5 := lt 5 (by omega) (by omega)
      refine ⟨e, fun i i0 i1 => ?_⟩
      rcases (by omega : i = 0 ∨ i = 1 ∨ i = 2 ∨ i = 3 ∨ i = 4 ∨ i = 5) with f | f | f | f | f | f <;> subst f <;> omega
  · intro e h
    rw [n4] at e h
    rw [e, hsh_3, hsh_2, hsh_1]
    have x0 := h 0 (by omega) (by omega)
    have x1 := h 1 (by omega) (by omega)
    have x2 := h 2 (by omega) (by omega)
    omega
  · intro h
    rw [n4]
    rcases L with e | e | e | e | e | e
    · rw [e, hsh_1] at h
      have y0 := lt 0 (by omega) (by omega)
      omega
    · rw [e, hsh_2, hsh_1] at h
      have y0 := lt 0 (by omega) (by omega)
      have y1 := lt 1 (by omega) (by omega)
      omega
    · rw [e, hsh_3, hsh_2, hsh_1] at h
      have y0 := lt 0 (by omega) (by omega)
      have y1 := lt 1 (by omega) (by omega)
      have y2 := lt 2 (by omega) (by omega)
      refine ⟨e, fun i i0 i1 => ?_⟩
      rcases (by omega : i = 0 ∨ i = 1 ∨ i = 2) with f | f | f <;> subst f <;> omega
    · rw [e, hsh_4, hsh_3, hsh_2, hsh_1] at h
      have y0 := lt 0 (by omega) (by omega)
      have y1 := lt 1 (by omega) (by omega)
      have y2 := lt 2 (by omega) (by omega)
      have y3 := lt 3 (by omega) (by omega)
      omega
    · rw [e, hsh_5, hsh_4, hsh_3, hsh_2, hsh_1] at h
      have y0 := lt 0 (by omega) (by omega)
      have y1 := lt 1 (by omega) (by omega)
      have y2 := lt 2 (by omega) (by omega)
      have y3 := lt 3 (by omega) (by omega)
      have y4 := lt 4 (by omega) (by omega)
      omega
    · rw [e, hsh_6, hsh_5, hsh_4, hsh_3, hsh_2, hsh_1] at h
      have y0 := lt 0 (by omega) (by omega)
      have y1 := lt 1 (by omega) (by omega)
      have y2 := lt 2 (by omega) (by omega)
      have y3 := lt 3 (by omega) (by omega)
      have y4 := lt 4 (by omega) (by omega)
      have y5 := lt 5 (by omega) (by omega)
      omega
  · intro e h
    rw [n5] at e h
    rw [e, hsh_3, hsh_2, hsh_1]
    have x0 := h 0 (by omega) (by omega)
    have x1 := h 1 (by omega) (by omega)
    have x2 := h 2 (by omega) (by omega)
    omega
  · intro h
    rw [n5]
    rcases L with e | e | e | e | e | e
    · rw [e, hsh_1] at h
      have y0 := lt 0 (by omega) (by omega)
      omega
    · rw [e, hsh_2, hsh_1] at h
      have y0 := lt 0 (by omega) (by omega)
      have y1 := lt 1 (by omega) (by omega)
      omega
    · rw [e, hsh_3, hsh_2, hsh_1] at h
      have y0 := lt 0 (by omega) (by omega)
      have y1 := lt 1 (by omega) (by omega)
      have y2 := lt 2 (by omega) (by omega)
      refine ⟨e, fun i i0 i1 => ?_⟩
      rcases (by omega : i = 0 ∨ i = 1 ∨ i = 2) with f | f | f <;> subst f <;> omega
    · rw [e, hsh_4, hsh_3, hsh_2, hsh_1] at h
      have y0 := lt 0 (by omega) (by omega)
      have y1 := lt 1 (by omega) (by omega)
      have y2 := lt 2 (by omega) (by omega)
      have y3 := lt 3 (by omega) (by omega)
      omega
    · rw [e, hsh_5, hsh_4, hsh_3, hsh_2, hsh_1] at h
      have y0 := lt 0 (by omega) (by omega)
      have y1 := lt 1 (by omega) (by omega)
      have y2 := lt 2 (by omega) (by omega)
      have y3 := lt 3 (by omega) (by omega)
      have y4 := lt 4 (by omega) (by omega)
      omega
    · rw [e, hsh_6, hsh_5, hsh_4, hsh_3, hsh_2, hsh_1] at h
      have y0 := lt 0 (by omega) (by omega)
      have y1 := lt 1 (by omega) (by omega)
      have y2 := lt 2 (by omega) (by omega)
      have y3 := lt 3 (by omega) (by omega)
      have y4 := lt 4 (by omega) (by omega)
      have y5 := lt 5 (by omega) (by omega)
      omega
  · intro e h
    rw [n6] at e h
    rw [e, hsh_5, hsh_4, hsh_3, hsh_2, hsh_1]
    have x0 := h 0 (by omega) (by omega)
    have x1 := h 1 (by omega) (by omega)
    have x2 := h 2 (by omega) (by omega)
    have x3 := h 3 (by omega) (by omega)
    have x4 := h 4 (by omega) (by omega)
    omega
  · intro h
    rw [n6]
    rcases L with e | e | e | e | e | e
    · rw [e, hsh_1] at h
      have y0 := lt 0 (by omega) (by omega)
      omega
    · rw [e, hsh_2, hsh_1] at h
      have y0 := lt 0 (by omega) (by omega)
      have y1 := lt 1 (by omega) (by omega)
      omega
    · rw [e, hsh_3, hsh_2, hsh_1] at h
      have y0 := lt 0 (by omega) (by omega)
      have y1 := lt 1 (by omega) (by omega)
      have y2 := lt 2 (by omega) (by omega)
      omega
    · rw [e, hsh_4, hsh_3, hsh_2, hsh_1] at h
      have y0 := lt 0 (by omega) (by omega)
      have y1 := lt 1 (by omega) (by omega)
      have y2 := lt 2 (by omega) (by omega)
      have y3 := lt 3 (by omega) (by omega)
      omega
    · rw [e, hsh_5, hsh_4, hsh_3, hsh_2, hsh_1] at h
      have y0 := lt 0 (by omega) (by omega)
      have y1 := lt 1 (by omega) (by omega)
      have y2 := lt 2 (by omega) (by omega)
      have y3 := lt 3 (by omega) (by omega)
      have y4 := lt 4 (by omega) (by omega)
      refine ⟨e, fun i i0 i1 => ?_⟩
      rcases (by omega : i = 0 ∨ i = 1 ∨ i = 2 ∨ i = 3 ∨ i = 4) with f | f | f | f | f <;> subst f <;> omega
    · rw [e, hsh_6, hsh_5, hsh_4, hsh_3, hsh_2, hsh_1] at h
      have y0 := lt 0 (by omega) (by omega)
      have y1 := lt 1 (by omega) (by omega)
      have y2 := lt 2 (by omega) (by omega)
      have y3 := lt 3 (by omega) (by omega)
      have y4 := lt 4 (by omega) (by omega)
      have y5 := lt 5 (by omega) (by omega)
      omega
  · intro e h
    rw [n7] at e h
    rw [e, hsh_4, hsh_3, hsh_2, hsh_1]
    have x0 := h 0 (by omega) (by omega)
    have x1 := h 1 (by omega) (by omega)
    have x2 := h 2 (by omega) (by omega)
    have x3 := h 3 (by omega) (by omega)
    omega
  · intro h
    rw [n7]
    rcases L with e | e | e | e | e | e
    · rw [e, hsh_1] at h
      have y0 := lt 0 (by omega) (by omega)
      omega
    · rw [e, hsh_2, hsh_1] at h
      have y0 := lt 0 (by omega) (by omega)
      have y1 := lt 1 (by omega) (by omega)
      omega
    · rw [e, hsh_3, hsh_2, hsh_1] at h
      have y0 := lt 0 (by omega) (by omega)
      have y1 := lt 1 (by omega) (by omega)
      have y2 := lt 2 (by omega) (by omega)
      omega
    · rw [e, hsh_4, hsh_3, hsh_2, hsh_1] at h
      have y0 := lt 0 (by omega) (by omega)
      have y1 := lt 1 (by omega) (by omega)
      have y2 := lt 2 (by omega) (by omega)
      have y3 := lt 3 (by omega) (by omega)
      refine ⟨e, fun i i0 i1 => ?_⟩
      rcases (by omega : i = 0 ∨ i = 1 ∨ i = 2 ∨ i = 3) with f | f | f | f <;> subst f <;> omega
    · rw [e, hsh_5, hsh_4, hsh_3, hsh_2, hsh_1] at h
      have y0 := lt 0 (by omega) (by omega)
      have y1 := lt 1 (by omega) (by omega)
      have y2 := lt 2 (by omega) (by omega)
      have y3 := lt 3 (by omega) (by omega)
      have y4 := lt 4 (by omega) (by omega)
      omega
    · rw [e, hsh_6, hsh_5, hsh_4, hsh_3, hsh_2, hsh_1] at h
      have y0 := lt 0 (by omega) (by omega)
      have y1 := lt 1 (by omega) (by omega)
      have y2 := lt 2 (by omega) (by omega)
      have y3 := lt 3 (by omega) (by omega)
      have y4 := lt 4 (by omega) (by omega)
      have y5 := lt 5 (by omega) (by omega)
      omega
def P_X11_byteAt (o p : Int) (μ : Mem) : Prop := o = 201 ∧ (0 ≤ p ∧ p ≤ 1000) ∧ 0 ≤ μ 201 2 ∧ μ 201 2 ≤ 500
def F_X11_byteAt (_ p : Int) (μ : Mem) : Int := if p < μ 201 2 then μ 202 (10 + p) else -1
def S_X11_byteAt : S0t := fun as μ Q => match as with
  | [(2, x0), (0, x1)] => P_X11_byteAt x0 x1 μ ∧ Q μ (some (kI (F_X11_byteAt x0 x1 μ)))
  | _ => False
theorem mono_X11_byteAt : Mono S_X11_byteAt := by
  intro as μ Q Q' h hS
  unfold S_X11_byteAt at hS ⊢
  split at hS
  · exact ⟨hS.1, h _ _ hS.2⟩
  · exact hS.elim
def iX11_byteAt : Inf := (kX11_byteAt, fTX11, pTX11, cTX11, lTX11, sTX11, [])
theorem ok_X11_byteAt : infOK iX11_byteAt mX11_byteAt RX11 0 0 := ⟨kkX11_byteAt, fTX11_ok, pTX11_ok _, cTX11_ok, lTX11_ok, sTX11_ok, c_nil⟩
theorem mt_X11_byteAt : mtOK [] RX11 0 0 := mt_nil
abbrev V_X11_byteAt (R : Mem → Option AV → Prop) (pc : Nat) (lc : List (Nat × AV)) (μ : Mem) : Prop := VM mX11_byteAt RX11 0 0 R pc lc [] μ
set_option maxRecDepth 20000 in
theorem vc_X11_byteAt_0 {R : Mem → Option AV → Prop} {p : Int} {μ : Mem} (H : r32 p ∧ r32 (μ 201 2) ∧ (((μ 201 2) ≤ p) → R μ (some (kI (-1)))) ∧ (¬ ((μ 201 2) ≤ p) → (0 ≤ (10 + p) ∧ (10 + p) < 5160) ∧ R μ (some (kI (μ 202 (10 + p)))))) : V_X11_byteAt R 0 [(0, kR 201), (1, kI p)] μ := by
  refine vm_step2 mt_X11_byteAt ok_X11_byteAt [] 1000 ?_
  show isC 201 11 ∧ (r32 p ∧ r32 (μ 201 2)) ∧ (((μ 201 2) ≤ p) → R μ (some (kI (-1)))) ∧ (¬ ((μ 201 2) ≤ p) → isC 201 11 ∧ inA 202 0 (10 + p) ∧ R μ (some (kI (μ 202 (10 + p)))))
  exact ⟨c_201, ⟨⟨H.1, H.2.1⟩, fun hc1 => (H.2.2.1 hc1), fun hc1 => ⟨c_201, ⟨isArr.in a_202 (H.2.2.2 hc1).1.1 (H.2.2.2 hc1).1.2, (H.2.2.2 hc1).2⟩⟩⟩⟩
theorem body_X11_byteAt {o p : Int} {μ : Mem} {R : Mem → Option AV → Prop} (h : P_X11_byteAt o p μ) (hR : R μ (some (kI (F_X11_byteAt o p μ)))) : V_X11_byteAt R 0 [(0, kR o), (1, kI p)] μ := by
  obtain ⟨rfl, hp, hn⟩ := h
  unfold F_X11_byteAt at hR
  refine vc_X11_byteAt_0 ⟨rr (by omega), rr (by omega), fun c => ?_, fun c => ⟨by omega, ?_⟩⟩
  · rw [if_neg (by omega)] at hR; exact hR
  · rw [if_pos (by omega)] at hR; exact hR
theorem ct_X11_byteAt : Ct mX11_byteAt 0 0 0 0 (nrmS S_X11_byteAt) := by
  refine ct_vm (own := RX11) (by decide +kernel) rfl ?_ ?_
  · intro as μ Q hS
    unfold S_X11_byteAt at hS
    split at hS
    · exact Nat.le_of_ble_eq_true rfl
    · exact hS.elim
  · intro as μ R hS
    unfold S_X11_byteAt at hS
    split at hS
    · exact body_X11_byteAt hS.1 hS.2
    · exact hS.elim
def P_X11_isLetter (c : Int) (_ : Mem) : Prop := r32 c
def F_X11_isLetter (c : Int) (_ : Mem) : Int := if isLet c = true then 1 else 0
def S_X11_isLetter : S0t := fun as μ Q => match as with
  | [(0, x0)] => P_X11_isLetter x0 μ ∧ Q μ (some (kI (F_X11_isLetter x0 μ)))
  | _ => False
theorem mono_X11_isLetter : Mono S_X11_isLetter := by
  intro as μ Q Q' h hS
  unfold S_X11_isLetter at hS ⊢
  split at hS
  · exact ⟨hS.1, h _ _ hS.2⟩
  · exact hS.elim
def iX11_isLetter : Inf := (kX11_isLetter, fTX11, pTX11, cTX11, lTX11, sTX11, [])
theorem ok_X11_isLetter : infOK iX11_isLetter mX11_isLetter RX11 0 0 := ⟨kkX11_isLetter, fTX11_ok, pTX11_ok _, cTX11_ok, lTX11_ok, sTX11_ok, c_nil⟩
theorem mt_X11_isLetter : mtOK [] RX11 0 0 := mt_nil
abbrev V_X11_isLetter (R : Mem → Option AV → Prop) (pc : Nat) (lc : List (Nat × AV)) (μ : Mem) : Prop := VM mX11_isLetter RX11 0 0 R pc lc [] μ
set_option maxRecDepth 20000 in
theorem vc_X11_isLetter_0 {R : Mem → Option AV → Prop} {c : Int} {μ : Mem} (H : r32 c ∧ ((c < (97 : Int)) → R μ (some (kI 0))) ∧ (¬ (c < (97 : Int)) → r32 c ∧ (((122 : Int) < c) → R μ (some (kI 0))) ∧ (¬ ((122 : Int) < c) → R μ (some (kI 1))))) : V_X11_isLetter R 0 [(0, kI c)] μ := by
  refine vm_step2 mt_X11_isLetter ok_X11_isLetter [] 1000 ?_
  show (r32 c ∧ r32 (97 : Int)) ∧ ((c < (97 : Int)) → (0 ≤ (0 : Int) ∧ (0 : Int) ≤ 1) ∧ R μ (some (kI 0))) ∧ (¬ (c < (97 : Int)) → (r32 c ∧ r32 (122 : Int)) ∧ (((122 : Int) < c) → (0 ≤ (0 : Int) ∧ (0 : Int) ≤ 1) ∧ R μ (some (kI 0))) ∧ (¬ ((122 : Int) < c) → (0 ≤ (1 : Int) ∧ (1 : Int) ≤ 1) ∧ R μ (some (kI 1))))
  exact ⟨⟨H.1, by unfold r32; omega⟩, fun hc2 => ⟨⟨by omega, by omega⟩, (H.2.1 hc2)⟩, fun hc2 => ⟨⟨(H.2.2 hc2).1, by unfold r32; omega⟩, fun hc1 => ⟨⟨by omega, by omega⟩, ((H.2.2 hc2).2.1 hc1)⟩, fun hc1 => ⟨⟨by omega, by omega⟩, ((H.2.2 hc2).2.2 hc1)⟩⟩⟩
theorem body_X11_isLetter {c : Int} {μ : Mem} {R : Mem → Option AV → Prop} (h : P_X11_isLetter c μ) (hR : R μ (some (kI (F_X11_isLetter c μ)))) : V_X11_isLetter R 0 [(0, kI c)] μ := by
  have h : r32 c := h
  unfold F_X11_isLetter isLet at hR
  refine vc_X11_isLetter_0 ⟨h, fun q => ?_, fun q => ⟨h, fun g => ?_, fun g => ?_⟩⟩
  · rw [decide_eq_false (by omega), if_neg (by decide)] at hR; exact hR
  · rw [decide_eq_false (by omega), if_neg (by decide)] at hR; exact hR
  · rw [decide_eq_true (by omega), if_pos rfl] at hR; exact hR
theorem ct_X11_isLetter : Ct mX11_isLetter 0 0 0 0 (nrmS S_X11_isLetter) := by
  refine ct_vm (own := RX11) (by decide +kernel) rfl ?_ ?_
  · intro as μ Q hS
    unfold S_X11_isLetter at hS
    split at hS
    · exact Nat.le_of_ble_eq_true rfl
    · exact hS.elim
  · intro as μ R hS
    unfold S_X11_isLetter at hS
    split at hS
    · exact body_X11_isLetter hS.1 hS.2
    · exact hS.elim
def P_X11_isDigit (c : Int) (_ : Mem) : Prop := r32 c
def F_X11_isDigit (c : Int) (_ : Mem) : Int := if isDig c = true then 1 else 0
def S_X11_isDigit : S0t := fun as μ Q => match as with
  | [(0, x0)] => P_X11_isDigit x0 μ ∧ Q μ (some (kI (F_X11_isDigit x0 μ)))
  | _ => False
theorem mono_X11_isDigit : Mono S_X11_isDigit := by
  intro as μ Q Q' h hS
  unfold S_X11_isDigit at hS ⊢
  split at hS
  · exact ⟨hS.1, h _ _ hS.2⟩
  · exact hS.elim
def iX11_isDigit : Inf := (kX11_isDigit, fTX11, pTX11, cTX11, lTX11, sTX11, [])
theorem ok_X11_isDigit : infOK iX11_isDigit mX11_isDigit RX11 0 0 := ⟨kkX11_isDigit, fTX11_ok, pTX11_ok _, cTX11_ok, lTX11_ok, sTX11_ok, c_nil⟩
theorem mt_X11_isDigit : mtOK [] RX11 0 0 := mt_nil
abbrev V_X11_isDigit (R : Mem → Option AV → Prop) (pc : Nat) (lc : List (Nat × AV)) (μ : Mem) : Prop := VM mX11_isDigit RX11 0 0 R pc lc [] μ
set_option maxRecDepth 20000 in
theorem vc_X11_isDigit_0 {R : Mem → Option AV → Prop} {c : Int} {μ : Mem} (H : r32 c ∧ ((c < (48 : Int)) → R μ (some (kI 0))) ∧ (¬ (c < (48 : Int)) → r32 c ∧ (((57 : Int) < c) → R μ (some (kI 0))) ∧ (¬ ((57 : Int) < c) → R μ (some (kI 1))))) : V_X11_isDigit R 0 [(0, kI c)] μ := by
  refine vm_step2 mt_X11_isDigit ok_X11_isDigit [] 1000 ?_
  show (r32 c ∧ r32 (48 : Int)) ∧ ((c < (48 : Int)) → (0 ≤ (0 : Int) ∧ (0 : Int) ≤ 1) ∧ R μ (some (kI 0))) ∧ (¬ (c < (48 : Int)) → (r32 c ∧ r32 (57 : Int)) ∧ (((57 : Int) < c) → (0 ≤ (0 : Int) ∧ (0 : Int) ≤ 1) ∧ R μ (some (kI 0))) ∧ (¬ ((57 : Int) < c) → (0 ≤ (1 : Int) ∧ (1 : Int) ≤ 1) ∧ R μ (some (kI 1))))
  exact ⟨⟨H.1, by unfold r32; omega⟩, fun hc2 => ⟨⟨by omega, by omega⟩, (H.2.1 hc2)⟩, fun hc2 => ⟨⟨(H.2.2 hc2).1, by unfold r32; omega⟩, fun hc1 => ⟨⟨by omega, by omega⟩, ((H.2.2 hc2).2.1 hc1)⟩, fun hc1 => ⟨⟨by omega, by omega⟩, ((H.2.2 hc2).2.2 hc1)⟩⟩⟩
theorem body_X11_isDigit {c : Int} {μ : Mem} {R : Mem → Option AV → Prop} (h : P_X11_isDigit c μ) (hR : R μ (some (kI (F_X11_isDigit c μ)))) : V_X11_isDigit R 0 [(0, kI c)] μ := by
  have h : r32 c := h
  unfold F_X11_isDigit isDig at hR
  refine vc_X11_isDigit_0 ⟨h, fun q => ?_, fun q => ⟨h, fun g => ?_, fun g => ?_⟩⟩
  · rw [decide_eq_false (by omega), if_neg (by decide)] at hR; exact hR
  · rw [decide_eq_false (by omega), if_neg (by decide)] at hR; exact hR
  · rw [decide_eq_true (by omega), if_pos rfl] at hR; exact hR
theorem ct_X11_isDigit : Ct mX11_isDigit 0 0 0 0 (nrmS S_X11_isDigit) := by
  refine ct_vm (own := RX11) (by decide +kernel) rfl ?_ ?_
  · intro as μ Q hS
    unfold S_X11_isDigit at hS
    split at hS
    · exact Nat.le_of_ble_eq_true rfl
    · exact hS.elim
  · intro as μ R hS
    unfold S_X11_isDigit at hS
    split at hS
    · exact body_X11_isDigit hS.1 hS.2
    · exact hS.elim
def P_X11_three (a b c : Int) (_ : Mem) : Prop := (0 ≤ a ∧ a ≤ 1000) ∧ (0 ≤ b ∧ b ≤ 1000) ∧ 0 ≤ c ∧ c ≤ 1000
def F_X11_three (a b c : Int) (_ : Mem) : Int := (32 * (a - 96) + b - 96) * 32 + c - 96
def S_X11_three : S0t := fun as μ Q => match as with
  | [(0, x0), (0, x1), (0, x2)] => P_X11_three x0 x1 x2 μ ∧ Q μ (some (kL (F_X11_three x0 x1 x2 μ)))
  | _ => False
theorem mono_X11_three : Mono S_X11_three := by
  intro as μ Q Q' h hS
  unfold S_X11_three at hS ⊢
  split at hS
  · exact ⟨hS.1, h _ _ hS.2⟩
  · exact hS.elim
def iX11_three : Inf := (kX11_three, fTX11, pTX11, cTX11, lTX11, sTX11, [])
theorem ok_X11_three : infOK iX11_three mX11_three RX11 0 0 := ⟨kkX11_three, fTX11_ok, pTX11_ok _, cTX11_ok, lTX11_ok, sTX11_ok, c_nil⟩
theorem mt_X11_three : mtOK [] RX11 0 0 := mt_nil
abbrev V_X11_three (R : Mem → Option AV → Prop) (pc : Nat) (lc : List (Nat × AV)) (μ : Mem) : Prop := VM mX11_three RX11 0 0 R pc lc [] μ
set_option maxRecDepth 20000 in
theorem vc_X11_three_0 {R : Mem → Option AV → Prop} {a b c : Int} {μ : Mem} (H : r32 (a - 96) ∧ r32 b ∧ r32 c ∧ R μ (some (kL ((((((32 * (a - 96)) + b) - 96) * 32) + c) - 96)))) : V_X11_three R 0 [(0, kI a), (1, kI b), (2, kI c)] μ := by
  refine vm_step2 mt_X11_three ok_X11_three [] 1000 ?_
  show r32 (a - 96) ∧ r32 b ∧ r32 c ∧ R μ (some (kL ((((((32 * (a - 96)) + b) - 96) * 32) + c) - 96)))
  exact ⟨H.1, ⟨H.2.1, ⟨H.2.2.1, H.2.2.2⟩⟩⟩
theorem body_X11_three {a b c : Int} {μ : Mem} {R : Mem → Option AV → Prop} (h : P_X11_three a b c μ) (hR : R μ (some (kL (F_X11_three a b c μ)))) : V_X11_three R 0 [(0, kI a), (1, kI b), (2, kI c)] μ := by
  have h : (0 ≤ a ∧ a ≤ 1000) ∧ (0 ≤ b ∧ b ≤ 1000) ∧ 0 ≤ c ∧ c ≤ 1000 := h
  exact vc_X11_three_0 ⟨rr (by omega), rr (by omega), rr (by omega), hR⟩
theorem ct_X11_three : Ct mX11_three 0 0 0 0 (nrmS S_X11_three) := by
  refine ct_vm (own := RX11) (by decide +kernel) rfl ?_ ?_
  · intro as μ Q hS
    unfold S_X11_three at hS
    split at hS
    · exact Nat.le_of_ble_eq_true rfl
    · exact hS.elim
  · intro as μ R hS
    unfold S_X11_three at hS
    split at hS
    · exact body_X11_three hS.1 hS.2
    · exact hS.elim
def P_X11_four (a b c d : Int) (_ : Mem) : Prop := (0 ≤ a ∧ a ≤ 1000) ∧ (0 ≤ b ∧ b ≤ 1000) ∧ (0 ≤ c ∧ c ≤ 1000) ∧ 0 ≤ d ∧ d ≤ 1000
def F_X11_four (a b c d : Int) (μ : Mem) : Int := F_X11_three a b c μ * 32 + d - 96
def S_X11_four : S0t := fun as μ Q => match as with
  | [(0, x0), (0, x1), (0, x2), (0, x3)] => P_X11_four x0 x1 x2 x3 μ ∧ Q μ (some (kL (F_X11_four x0 x1 x2 x3 μ)))
  | _ => False
theorem mono_X11_four : Mono S_X11_four := by
  intro as μ Q Q' h hS
  unfold S_X11_four at hS ⊢
  split at hS
  · exact ⟨hS.1, h _ _ hS.2⟩
  · exact hS.elim
def iX11_four : Inf := (kX11_four, fTX11, pTX11, cTX11, lTX11, sTX11, [(110, 1, 3, 0, S_X11_three)])
theorem ok_X11_four : infOK iX11_four mX11_four RX11 1 22 := ⟨kkX11_four, fTX11_ok, pTX11_ok _, cTX11_ok, lTX11_ok, sTX11_ok, c_cons ⟨mX11_three, 0, 0, ct_X11_three, mmX11_three, stX11_three, lkX11_110, ⟨by decide, by decide⟩, mono_X11_three⟩ (c_nil)⟩
theorem mt_X11_four : mtOK [] RX11 1 22 := mt_nil
abbrev V_X11_four (R : Mem → Option AV → Prop) (pc : Nat) (lc : List (Nat × AV)) (μ : Mem) : Prop := VM mX11_four RX11 1 22 R pc lc [] μ
set_option maxRecDepth 20000 in
theorem vc_X11_four_0 {R : Mem → Option AV → Prop} {a b c d : Int} {μ : Mem} (H : P_X11_three a b c μ ∧ r32 d ∧ R μ (some (kL ((((F_X11_three a b c μ) * 32) + d) - 96)))) : V_X11_four R 0 [(0, kI a), (1, kI b), (2, kI c), (3, kI d)] μ := by
  refine vm_step2 mt_X11_four ok_X11_four [] 1000 ?_
  show P_X11_three a b c μ ∧ r32 d ∧ R μ (some (kL ((((F_X11_three a b c μ) * 32) + d) - 96)))
  exact ⟨H.1, ⟨H.2.1, H.2.2⟩⟩
theorem body_X11_four {a b c d : Int} {μ : Mem} {R : Mem → Option AV → Prop} (h : P_X11_four a b c d μ) (hR : R μ (some (kL (F_X11_four a b c d μ)))) : V_X11_four R 0 [(0, kI a), (1, kI b), (2, kI c), (3, kI d)] μ := by
  have h : (0 ≤ a ∧ a ≤ 1000) ∧ (0 ≤ b ∧ b ≤ 1000) ∧ (0 ≤ c ∧ c ≤ 1000) ∧ 0 ≤ d ∧ d ≤ 1000 := h
  exact vc_X11_four_0 ⟨⟨h.1, h.2.1, h.2.2.1⟩, rr (by omega), hR⟩
theorem ct_X11_four : Ct mX11_four 1 22 0 0 (nrmS S_X11_four) := by
  refine ct_vm (own := RX11) (by decide +kernel) rfl ?_ ?_
  · intro as μ Q hS
    unfold S_X11_four at hS
    split at hS
    · exact Nat.le_of_ble_eq_true rfl
    · exact hS.elim
  · intro as μ R hS
    unfold S_X11_four at hS
    split at hS
    · exact body_X11_four hS.1 hS.2
    · exact hS.elim
def P_X11_wordOf (v : Int) (_ : Mem) : Prop := r64 v
def F_X11_wordOf (v : Int) (_ : Mem) : Int := wordN v
def S_X11_wordOf : S0t := fun as μ Q => match as with
  | [(1, x0)] => P_X11_wordOf x0 μ ∧ Q μ (some (kI (F_X11_wordOf x0 μ)))
  | _ => False
theorem mono_X11_wordOf : Mono S_X11_wordOf := by
  intro as μ Q Q' h hS
  unfold S_X11_wordOf at hS ⊢
  split at hS
  · exact ⟨hS.1, h _ _ hS.2⟩
  · exact hS.elim
def iX11_wordOf : Inf := (kX11_wordOf, fTX11, pTX11, cTX11, lTX11, sTX11, [(110, 1, 3, 0, S_X11_three), (116, 1, 4, 0, S_X11_four)])
theorem ok_X11_wordOf : infOK iX11_wordOf mX11_wordOf RX11 2 45 := ⟨kkX11_wordOf, fTX11_ok, pTX11_ok _, cTX11_ok, lTX11_ok, sTX11_ok, c_cons ⟨mX11_three, 0, 0, ct_X11_three, mmX11_three, stX11_three, lkX11_110, ⟨by decide, by decide⟩, mono_X11_three⟩ (c_cons ⟨mX11_four, 1, 22, ct_X11_four, mmX11_four, stX11_four, lkX11_116, ⟨by decide, by decide⟩, mono_X11_four⟩ (c_nil))⟩
theorem mt_X11_wordOf : mtOK [] RX11 2 45 := mt_nil
abbrev V_X11_wordOf (R : Mem → Option AV → Prop) (pc : Nat) (lc : List (Nat × AV)) (μ : Mem) : Prop := VM mX11_wordOf RX11 2 45 R pc lc [] μ
set_option maxRecDepth 20000 in
theorem vc_X11_wordOf_0 {R : Mem → Option AV → Prop} {v : Int} {μ : Mem} (H : P_X11_three 112 108 97 μ ∧ P_X11_three 99 101 115 μ ∧ r64 v ∧ r64 (((F_X11_three 112 108 97 μ) * 32768) + (F_X11_three 99 101 115 μ)) ∧ ((¬ v = (((F_X11_three 112 108 97 μ) * 32768) + (F_X11_three 99 101 115 μ))) → P_X11_four 108 97 110 101 μ ∧ r64 v ∧ r64 (F_X11_four 108 97 110 101 μ) ∧ ((¬ v = (F_X11_four 108 97 110 101 μ)) → P_X11_three 99 104 97 μ ∧ P_X11_three 110 99 101 μ ∧ r64 v ∧ r64 (((F_X11_three 99 104 97 μ) * 32768) + (F_X11_three 110 99 101 μ)) ∧ ((¬ v = (((F_X11_three 99 104 97 μ) * 32768) + (F_X11_three 110 99 101 μ))) → P_X11_three 100 111 103 μ ∧ r64 v ∧ r64 (F_X11_three 100 111 103 μ) ∧ ((¬ v = (F_X11_three 100 111 103 μ)) → P_X11_three 100 105 103 μ ∧ r64 v ∧ r64 (F_X11_three 100 105 103 μ) ∧ ((¬ v = (F_X11_three 100 105 103 μ)) → P_X11_four 112 114 105 122 μ ∧ r64 v ∧ r64 ((((F_X11_four 112 114 105 122 μ) * 32) + 101) - 96) ∧ ((¬ v = ((((F_X11_four 112 114 105 122 μ) * 32) + 101) - 96)) → P_X11_four 109 111 118 101 μ ∧ r64 v ∧ r64 (F_X11_four 109 111 118 101 μ) ∧ ((¬ v = (F_X11_four 109 111 118 101 μ)) → R μ (some (kI 99))) ∧ (¬ (¬ v = (F_X11_four 109 111 118 101 μ)) → R μ (some (kI 7)))) ∧ (¬ (¬ v = ((((F_X11_four 112 114 105 122 μ) * 32) + 101) - 96)) → R μ (some (kI 6)))) ∧ (¬ (¬ v = (F_X11_three 100 105 103 μ)) → R μ (some (kI 5)))) ∧ (¬ (¬ v = (F_X11_three 100 111 103 μ)) → R μ (some (kI 4)))) ∧ (¬ (¬ v = (((F_X11_three 99 104 97 μ) * 32768) + (F_X11_three 110 99 101 μ))) → R μ (some (kI 3)))) ∧ (¬ (¬ v = (F_X11_four 108 97 110 101 μ)) → R μ (some (kI 2)))) ∧ (¬ (¬ v = (((F_X11_three 112 108 97 μ) * 32768) + (F_X11_three 99 101 115 μ))) → R μ (some (kI 1)))) : V_X11_wordOf R 0 [(0, kL v)] μ := by
  refine vm_step2 mt_X11_wordOf ok_X11_wordOf [] 1000 ?_
  show P_X11_three 112 108 97 μ ∧ P_X11_three 99 101 115 μ ∧ (r64 v ∧ r64 (((F_X11_three 112 108 97 μ) * 32768) + (F_X11_three 99 101 115 μ))) ∧ r32 (lcm3 v (((F_X11_three 112 108 97 μ) * 32768) + (F_X11_three 99 101 115 μ))) ∧ ((¬ lcm3 v (((F_X11_three 112 108 97 μ) * 32768) + (F_X11_three 99 101 115 μ)) = 0) → P_X11_four 108 97 110 101 μ ∧ (r64 v ∧ r64 (F_X11_four 108 97 110 101 μ)) ∧ r32 (lcm3 v (F_X11_four 108 97 110 101 μ)) ∧ ((¬ lcm3 v (F_X11_four 108 97 110 101 μ) = 0) → P_X11_three 99 104 97 μ ∧ P_X11_three 110 99 101 μ ∧ (r64 v ∧ r64 (((F_X11_three 99 104 97 μ) * 32768) + (F_X11_three 110 99 101 μ))) ∧ r32 (lcm3 v (((F_X11_three 99 104 97 μ) * 32768) + (F_X11_three 110 99 101 μ))) ∧ ((¬ lcm3 v (((F_X11_three 99 104 97 μ) * 32768) + (F_X11_three 110 99 101 μ)) = 0) → P_X11_three 100 111 103 μ ∧ (r64 v ∧ r64 (F_X11_three 100 111 103 μ)) ∧ r32 (lcm3 v (F_X11_three 100 111 103 μ)) ∧ ((¬ lcm3 v (F_X11_three 100 111 103 μ) = 0) → P_X11_three 100 105 103 μ ∧ (r64 v ∧ r64 (F_X11_three 100 105 103 μ)) ∧ r32 (lcm3 v (F_X11_three 100 105 103 μ)) ∧ ((¬ lcm3 v (F_X11_three 100 105 103 μ) = 0) → P_X11_four 112 114 105 122 μ ∧ (r64 v ∧ r64 ((((F_X11_four 112 114 105 122 μ) * 32) + 101) - 96)) ∧ r32 (lcm3 v ((((F_X11_four 112 114 105 122 μ) * 32) + 101) - 96)) ∧ ((¬ lcm3 v ((((F_X11_four 112 114 105 122 μ) * 32) + 101) - 96) = 0) → P_X11_four 109 111 118 101 μ ∧ (r64 v ∧ r64 (F_X11_four 109 111 118 101 μ)) ∧ r32 (lcm3 v (F_X11_four 109 111 118 101 μ)) ∧ ((¬ lcm3 v (F_X11_four 109 111 118 101 μ) = 0) → R μ (some (kI 99))) ∧ (¬ (¬ lcm3 v (F_X11_four 109 111 118 101 μ) = 0) → R μ (some (kI 7)))) ∧ (¬ (¬ lcm3 v ((((F_X11_four 112 114 105 122 μ) * 32) + 101) - 96) = 0) → R μ (some (kI 6)))) ∧ (¬ (¬ lcm3 v (F_X11_three 100 105 103 μ) = 0) → R μ (some (kI 5)))) ∧ (¬ (¬ lcm3 v (F_X11_three 100 111 103 μ) = 0) → R μ (some (kI 4)))) ∧ (¬ (¬ lcm3 v (((F_X11_three 99 104 97 μ) * 32768) + (F_X11_three 110 99 101 μ)) = 0) → R μ (some (kI 3)))) ∧ (¬ (¬ lcm3 v (F_X11_four 108 97 110 101 μ) = 0) → R μ (some (kI 2)))) ∧ (¬ (¬ lcm3 v (((F_X11_three 112 108 97 μ) * 32768) + (F_X11_three 99 101 115 μ)) = 0) → R μ (some (kI 1)))
  exact ⟨H.1, ⟨H.2.1, ⟨⟨H.2.2.1, H.2.2.2.1⟩, lcm3_r _ _, fun hc7 => ⟨(H.2.2.2.2.1 (lcm_ne.mp hc7)).1, ⟨⟨(H.2.2.2.2.1 (lcm_ne.mp hc7)).2.1, (H.2.2.2.2.1 (lcm_ne.mp hc7)).2.2.1⟩, lcm3_r _ _, fun hc6 => ⟨((H.2.2.2.2.1 (lcm_ne.mp hc7)).2.2.2.1 (lcm_ne.mp hc6)).1, ⟨((H.2.2.2.2.1 (lcm_ne.mp hc7)).2.2.2.1 (lcm_ne.mp hc6)).2.1, ⟨⟨((H.2.2.2.2.1 (lcm_ne.mp hc7)).2.2.2.1 (lcm_ne.mp hc6)).2.2.1, ((H.2.2.2.2.1 (lcm_ne.mp hc7)).2.2.2.1 (lcm_ne.mp hc6)).2.2.2.1⟩, lcm3_r _ _, fun hc5 => ⟨(((H.2.2.2.2.1 (lcm_ne.mp hc7)).2.2.2.1 (lcm_ne.mp hc6)).2.2.2.2.1 (lcm_ne.mp hc5)).1, ⟨⟨(((H.2.2.2.2.1 (lcm_ne.mp hc7)).2.2.2.1 (lcm_ne.mp hc6)).2.2.2.2.1 (lcm_ne.mp hc5)).2.1, (((H.2.2.2.2.1 (lcm_ne.mp hc7)).2.2.2.1 (lcm_ne.mp hc6)).2.2.2.2.1 (lcm_ne.mp hc5)).2.2.1⟩, lcm3_r _ _, fun hc4 => ⟨((((H.2.2.2.2.1 (lcm_ne.mp hc7)).2.2.2.1 (lcm_ne.mp hc6)).2.2.2.2.1 (lcm_ne.mp hc5)).2.2.2.1 (lcm_ne.mp hc4)).1, ⟨⟨((((H.2.2.2.2.1 (lcm_ne.mp hc7)).2.2.2.1 (lcm_ne.mp hc6)).2.2.2.2.1 (lcm_ne.mp hc5)).2.2.2.1 (lcm_ne.mp hc4)).2.1, ((((H.2.2.2.2.1 (lcm_ne.mp hc7)).2.2.2.1 (lcm_ne.mp hc6)).2.2.2.2.1 (lcm_ne.mp hc5)).2.2.2.1 (lcm_ne.mp hc4)).2.2.1⟩, lcm3_r _ _, fun hc3 => ⟨(((((H.2.2.2.2.1 (lcm_ne.mp hc7)).2.2.2.1 (lcm_ne.mp hc6)).2.2.2.2.1 (lcm_ne.mp hc5)).2.2.2.1 (lcm_ne.mp hc4)).2.2.2.1 (lcm_ne.mp hc3)).1, ⟨⟨(((((H.2.2.2.2.1 (lcm_ne.mp hc7)).2.2.2.1 (lcm_ne.mp hc6)).2.2.2.2.1 (lcm_ne.mp hc5)).2.2.2.1 (lcm_ne.mp hc4)).2.2.2.1 (lcm_ne.mp hc3)).2.1, (((((H.2.2.2.2.1 (lcm_ne.mp hc7)).2.2.2.1 (lcm_ne.mp hc6)).2.2.2.2.1 (lcm_ne.mp hc5)).2.2.2.1 (lcm_ne.mp hc4)).2.2.2.1 (lcm_ne.mp hc3)).2.2.1⟩, lcm3_r _ _, fun hc2 => ⟨((((((H.2.2.2.2.1 (lcm_ne.mp hc7)).2.2.2.1 (lcm_ne.mp hc6)).2.2.2.2.1 (lcm_ne.mp hc5)).2.2.2.1 (lcm_ne.mp hc4)).2.2.2.1 (lcm_ne.mp hc3)).2.2.2.1 (lcm_ne.mp hc2)).1, ⟨⟨((((((H.2.2.2.2.1 (lcm_ne.mp hc7)).2.2.2.1 (lcm_ne.mp hc6)).2.2.2.2.1 (lcm_ne.mp hc5)).2.2.2.1 (lcm_ne.mp hc4)).2.2.2.1 (lcm_ne.mp hc3)).2.2.2.1 (lcm_ne.mp hc2)).2.1, ((((((H.2.2.2.2.1 (lcm_ne.mp hc7)).2.2.2.1 (lcm_ne.mp hc6)).2.2.2.2.1 (lcm_ne.mp hc5)).2.2.2.1 (lcm_ne.mp hc4)).2.2.2.1 (lcm_ne.mp hc3)).2.2.2.1 (lcm_ne.mp hc2)).2.2.1⟩, lcm3_r _ _, fun hc1 => (((((((H.2.2.2.2.1 (lcm_ne.mp hc7)).2.2.2.1 (lcm_ne.mp hc6)).2.2.2.2.1 (lcm_ne.mp hc5)).2.2.2.1 (lcm_ne.mp hc4)).2.2.2.1 (lcm_ne.mp hc3)).2.2.2.1 (lcm_ne.mp hc2)).2.2.2.1 (lcm_ne.mp hc1)), fun hc1 => (((((((H.2.2.2.2.1 (lcm_ne.mp hc7)).2.2.2.1 (lcm_ne.mp hc6)).2.2.2.2.1 (lcm_ne.mp hc5)).2.2.2.1 (lcm_ne.mp hc4)).2.2.2.1 (lcm_ne.mp hc3)).2.2.2.1 (lcm_ne.mp hc2)).2.2.2.2 (fun q => hc1 (lcm_ne.mpr q)))⟩⟩, fun hc2 => ((((((H.2.2.2.2.1 (lcm_ne.mp hc7)).2.2.2.1 (lcm_ne.mp hc6)).2.2.2.2.1 (lcm_ne.mp hc5)).2.2.2.1 (lcm_ne.mp hc4)).2.2.2.1 (lcm_ne.mp hc3)).2.2.2.2 (fun q => hc2 (lcm_ne.mpr q)))⟩⟩, fun hc3 => (((((H.2.2.2.2.1 (lcm_ne.mp hc7)).2.2.2.1 (lcm_ne.mp hc6)).2.2.2.2.1 (lcm_ne.mp hc5)).2.2.2.1 (lcm_ne.mp hc4)).2.2.2.2 (fun q => hc3 (lcm_ne.mpr q)))⟩⟩, fun hc4 => ((((H.2.2.2.2.1 (lcm_ne.mp hc7)).2.2.2.1 (lcm_ne.mp hc6)).2.2.2.2.1 (lcm_ne.mp hc5)).2.2.2.2 (fun q => hc4 (lcm_ne.mpr q)))⟩⟩, fun hc5 => (((H.2.2.2.2.1 (lcm_ne.mp hc7)).2.2.2.1 (lcm_ne.mp hc6)).2.2.2.2.2 (fun q => hc5 (lcm_ne.mpr q)))⟩⟩⟩, fun hc6 => ((H.2.2.2.2.1 (lcm_ne.mp hc7)).2.2.2.2 (fun q => hc6 (lcm_ne.mpr q)))⟩⟩, fun hc7 => (H.2.2.2.2.2 (fun q => hc7 (lcm_ne.mpr q)))⟩⟩⟩
theorem body_X11_wordOf {v : Int} {μ : Mem} {R : Mem → Option AV → Prop} (h : P_X11_wordOf v μ) (hR : R μ (some (kI (F_X11_wordOf v μ)))) : V_X11_wordOf R 0 [(0, kL v)] μ := by
  have h : r64 v := h
  unfold F_X11_wordOf wordN at hR
  have e1 : F_X11_three 112 108 97 μ * 32768 + F_X11_three 99 101 115 μ = 549489843 := by unfold F_X11_three; decide
  have e2 : F_X11_four 108 97 110 101 μ = 394693 := by unfold F_X11_four F_X11_three; decide
  have e3 : F_X11_three 99 104 97 μ * 32768 + F_X11_three 110 99 101 μ = 109099109 := by unfold F_X11_three; decide
  have e4 : F_X11_three 100 111 103 μ = 4583 := by unfold F_X11_three; decide
  have e5 : F_X11_three 100 105 103 μ = 4391 := by unfold F_X11_three; decide
  have e6 : F_X11_four 112 114 105 122 μ * 32 + 101 - 96 = 17377093 := by unfold F_X11_four F_X11_three; decide
  have e7 : F_X11_four 109 111 118 101 μ = 442053 := by unfold F_X11_four F_X11_three; decide
  refine vc_X11_wordOf_0 ?_
  rw [e1, e2, e3, e4, e5, e6, e7]
  refine ⟨⟨by omega, by omega, by omega⟩, ⟨by omega, by omega, by omega⟩, h, rl (by omega), fun a => ⟨⟨by omega, by omega, by omega, by omega⟩, h, rl (by omega), fun b => ⟨⟨by omega, by omega, by omega⟩, ⟨by omega, by omega, by omega⟩, h, rl (by omega), fun c => ⟨⟨by omega, by omega, by omega⟩, h, rl (by omega), fun d => ⟨⟨by omega, by omega, by omega⟩, h, rl (by omega), fun e => ⟨⟨by omega, by omega, by omega, by omega⟩, h, rl (by omega), fun f => ⟨⟨by omega, by omega, by omega, by omega⟩, h, rl (by omega), fun g => ?_, fun g => ?_⟩, fun f => ?_⟩, fun e => ?_⟩, fun d => ?_⟩, fun c => ?_⟩, fun b => ?_⟩, fun a => ?_⟩
  · rw [if_neg a, if_neg b, if_neg c, if_neg d, if_neg e, if_neg f, if_neg g] at hR; exact hR
  · rw [if_neg a, if_neg b, if_neg c, if_neg d, if_neg e, if_neg f, if_pos (Classical.not_not.mp g)] at hR; exact hR
  · rw [if_neg a, if_neg b, if_neg c, if_neg d, if_neg e, if_pos (Classical.not_not.mp f)] at hR; exact hR
  · rw [if_neg a, if_neg b, if_neg c, if_neg d, if_pos (Classical.not_not.mp e)] at hR; exact hR
  · rw [if_neg a, if_neg b, if_neg c, if_pos (Classical.not_not.mp d)] at hR; exact hR
  · rw [if_neg a, if_neg b, if_pos (Classical.not_not.mp c)] at hR; exact hR
  · rw [if_neg a, if_pos (Classical.not_not.mp b)] at hR; exact hR
  · rw [if_pos (Classical.not_not.mp a)] at hR; exact hR
theorem ct_X11_wordOf : Ct mX11_wordOf 2 45 0 0 (nrmS S_X11_wordOf) := by
  refine ct_vm (own := RX11) (by decide +kernel) rfl ?_ ?_
  · intro as μ Q hS
    unfold S_X11_wordOf at hS
    split at hS
    · exact Nat.le_of_ble_eq_true rfl
    · exact hS.elim
  · intro as μ R hS
    unfold S_X11_wordOf at hS
    split at hS
    · exact body_X11_wordOf hS.1 hS.2
    · exact hS.elim
def P_X11_advance (o : Int) (μ : Mem) : Prop := o = 201 ∧ TBm μ ∧ 0 ≤ μ 201 3 ∧ μ 201 3 ≤ μ 201 2
def Q_X11_advance (_ : Int) (μ μ' : Mem) : Prop := AdvX (TX μ) (μ 201 2) (μ 201 3) μ' ∧ (∀ f : Int, (f < 3 ∨ 7 < f) → μ' 201 f = μ 201 f) ∧ ∀ z : Int, z ≠ 201 → μ' z = μ z
def S_X11_advance : S0t := fun as μ Q => match as with
  | [(2, x0)] => P_X11_advance x0 μ ∧ ∀ (μ' : Mem) , Q_X11_advance x0 μ μ'  → Q μ' none
  | _ => False
theorem mono_X11_advance : Mono S_X11_advance := by
  intro as μ Q Q' h hS
  unfold S_X11_advance at hS ⊢
  split at hS
  · exact ⟨hS.1, fun μ' q => h _ _ (hS.2 _ q)⟩
  · exact hS.elim
def iX11_advance : Inf := (kX11_advance, fTX11, pTX11, cTX11, lTX11, sTX11, [(125, 0, 1, 11, S_X11_byteAt), (135, 1, 1, 0, S_X11_isLetter), (146, 1, 1, 0, S_X11_isDigit), (139, 1, 1, 0, S_X11_wordOf)])
theorem ok_X11_advance : infOK iX11_advance mX11_advance RX11 3 66 := ⟨kkX11_advance, fTX11_ok, pTX11_ok _, cTX11_ok, lTX11_ok, sTX11_ok, c_cons ⟨mX11_byteAt, 0, 0, ct_X11_byteAt, mmX11_byteAt, vvX11_byteAt, lkX11_125, ⟨by decide, by decide⟩, ⟨_, _, rfl⟩, by decide, mono_X11_byteAt⟩ (c_cons ⟨mX11_isLetter, 0, 0, ct_X11_isLetter, mmX11_isLetter, stX11_isLetter, lkX11_135, ⟨by decide, by decide⟩, mono_X11_isLetter⟩ (c_cons ⟨mX11_isDigit, 0, 0, ct_X11_isDigit, mmX11_isDigit, stX11_isDigit, lkX11_146, ⟨by decide, by decide⟩, mono_X11_isDigit⟩ (c_cons ⟨mX11_wordOf, 2, 45, ct_X11_wordOf, mmX11_wordOf, stX11_wordOf, lkX11_139, ⟨by decide, by decide⟩, mono_X11_wordOf⟩ (c_nil))))⟩
theorem mt_X11_advance : mtOK [] RX11 3 66 := mt_nil
abbrev V_X11_advance (R : Mem → Option AV → Prop) (pc : Nat) (lc : List (Nat × AV)) (μ : Mem) : Prop := VM mX11_advance RX11 3 66 R pc lc [] μ
set_option maxRecDepth 20000 in
theorem vc_X11_advance_0 {R : Mem → Option AV → Prop} {μ : Mem} (H : P_X11_byteAt 201 (μ 201 3) μ ∧ r32 (F_X11_byteAt 201 (μ 201 3) μ) ∧ (((F_X11_byteAt 201 (μ 201 3) μ) = (10 : Int)) → V_X11_advance R 36 [(0, kR 201)] (updm μ 201 3 ((μ 201 3) + 1))) ∧ (¬ ((F_X11_byteAt 201 (μ 201 3) μ) = (10 : Int)) → P_X11_byteAt 201 (μ 201 3) μ ∧ r32 (F_X11_byteAt 201 (μ 201 3) μ) ∧ ((¬ (F_X11_byteAt 201 (μ 201 3) μ) = (32 : Int)) → V_X11_advance R 47 [(0, kR 201)] (updm μ 201 4 (μ 201 3))) ∧ (¬ (¬ (F_X11_byteAt 201 (μ 201 3) μ) = (32 : Int)) → V_X11_advance R 36 [(0, kR 201)] (updm μ 201 3 ((μ 201 3) + 1))))) : V_X11_advance R 0 [(0, kR 201)] μ := by
  refine vm_step2 mt_X11_advance ok_X11_advance [(0, [0]), (36, [0]), (47, [0]), (65, []), (77, [0, 2]), (135, [0, 2]), (165, [0]), (183, []), (198, [0]), (248, [0]), (258, [0]), (283, []), (296, [0, 1])] 1000 ?_
  show isC 201 11 ∧ isC 201 11 ∧ P_X11_byteAt 201 (μ 201 3) μ ∧ (r32 (F_X11_byteAt 201 (μ 201 3) μ) ∧ r32 (10 : Int)) ∧ (((F_X11_byteAt 201 (μ 201 3) μ) = (10 : Int)) → isC 201 11 ∧ isC 201 11 ∧ 0 = 0 ∧ True ∧ V_X11_advance R 36 [(0, kR 201)] (updm μ 201 3 ((μ 201 3) + 1))) ∧ (¬ ((F_X11_byteAt 201 (μ 201 3) μ) = (10 : Int)) → isC 201 11 ∧ isC 201 11 ∧ P_X11_byteAt 201 (μ 201 3) μ ∧ (r32 (F_X11_byteAt 201 (μ 201 3) μ) ∧ r32 (32 : Int)) ∧ ((¬ (F_X11_byteAt 201 (μ 201 3) μ) = (32 : Int)) → isC 201 11 ∧ isC 201 11 ∧ 0 = 0 ∧ True ∧ V_X11_advance R 47 [(0, kR 201)] (updm μ 201 4 (μ 201 3))) ∧ (¬ (¬ (F_X11_byteAt 201 (μ 201 3) μ) = (32 : Int)) → isC 201 11 ∧ isC 201 11 ∧ 0 = 0 ∧ True ∧ V_X11_advance R 36 [(0, kR 201)] (updm μ 201 3 ((μ 201 3) + 1))))
  exact ⟨c_201, ⟨c_201, H.1, ⟨⟨H.2.1, by unfold r32; omega⟩, fun hc2 => ⟨c_201, ⟨c_201, rfl, trivial, (H.2.2.1 hc2)⟩⟩, fun hc2 => ⟨c_201, ⟨c_201, (H.2.2.2 hc2).1, ⟨⟨(H.2.2.2 hc2).2.1, by unfold r32; omega⟩, fun hc1 => ⟨c_201, ⟨c_201, rfl, trivial, ((H.2.2.2 hc2).2.2.1 hc1)⟩⟩, fun hc1 => ⟨c_201, ⟨c_201, rfl, trivial, ((H.2.2.2 hc2).2.2.2 hc1)⟩⟩⟩⟩⟩⟩⟩⟩
set_option maxRecDepth 20000 in
theorem vc_X11_advance_36 {R : Mem → Option AV → Prop} {μ : Mem} (H : V_X11_advance R 0 [(0, kR 201)] μ) : V_X11_advance R 36 [(0, kR 201)] μ := by
  refine vm_step2 mt_X11_advance ok_X11_advance [(0, [0]), (36, [0]), (47, [0]), (65, []), (77, [0, 2]), (135, [0, 2]), (165, [0]), (183, []), (198, [0]), (248, [0]), (258, [0]), (283, []), (296, [0, 1])] 1000 ?_
  show V_X11_advance R 0 [(0, kR 201)] μ
  exact H
set_option maxRecDepth 20000 in
theorem vc_X11_advance_47 {R : Mem → Option AV → Prop} {μ : Mem} (H : P_X11_byteAt 201 (μ 201 3) μ ∧ r32 (F_X11_byteAt 201 (μ 201 3) μ) ∧ ((0 ≤ (F_X11_byteAt 201 (μ 201 3) μ)) → P_X11_isLetter (F_X11_byteAt 201 (μ 201 3) μ) μ ∧ r32 (F_X11_isLetter (F_X11_byteAt 201 (μ 201 3) μ) μ) ∧ (((F_X11_isLetter (F_X11_byteAt 201 (μ 201 3) μ) μ) = 0) → P_X11_isDigit (F_X11_byteAt 201 (μ 201 3) μ) μ ∧ r32 (F_X11_isDigit (F_X11_byteAt 201 (μ 201 3) μ) μ) ∧ (((F_X11_isDigit (F_X11_byteAt 201 (μ 201 3) μ) μ) = 0) → V_X11_advance R 296 [(0, kR 201), (1, kI (F_X11_byteAt 201 (μ 201 3) μ))] (updm μ 201 3 ((μ 201 3) + 1))) ∧ (¬ ((F_X11_isDigit (F_X11_byteAt 201 (μ 201 3) μ) μ) = 0) → V_X11_advance R 198 [(0, kR 201)] (updm μ 201 6 0))) ∧ (¬ ((F_X11_isLetter (F_X11_byteAt 201 (μ 201 3) μ) μ) = 0) → V_X11_advance R 77 [(0, kR 201), (2, kL 0)] μ)) ∧ (¬ (0 ≤ (F_X11_byteAt 201 (μ 201 3) μ)) → V_X11_advance R 65 [] (updm μ 201 5 0))) : V_X11_advance R 47 [(0, kR 201)] μ := by
  refine vm_step2 mt_X11_advance ok_X11_advance [(0, [0]), (36, [0]), (47, [0]), (65, []), (77, [0, 2]), (135, [0, 2]), (165, [0]), (183, []), (198, [0]), (248, [0]), (258, [0]), (283, []), (296, [0, 1])] 1000 ?_
  show isC 201 11 ∧ isC 201 11 ∧ P_X11_byteAt 201 (μ 201 3) μ ∧ r32 (F_X11_byteAt 201 (μ 201 3) μ) ∧ ((0 ≤ (F_X11_byteAt 201 (μ 201 3) μ)) → P_X11_isLetter (F_X11_byteAt 201 (μ 201 3) μ) μ ∧ r32 (F_X11_isLetter (F_X11_byteAt 201 (μ 201 3) μ) μ) ∧ (((F_X11_isLetter (F_X11_byteAt 201 (μ 201 3) μ) μ) = 0) → P_X11_isDigit (F_X11_byteAt 201 (μ 201 3) μ) μ ∧ r32 (F_X11_isDigit (F_X11_byteAt 201 (μ 201 3) μ) μ) ∧ (((F_X11_isDigit (F_X11_byteAt 201 (μ 201 3) μ) μ) = 0) → isC 201 11 ∧ isC 201 11 ∧ 0 = 0 ∧ True ∧ V_X11_advance R 296 [(0, kR 201), (1, kI (F_X11_byteAt 201 (μ 201 3) μ))] (updm μ 201 3 ((μ 201 3) + 1))) ∧ (¬ ((F_X11_isDigit (F_X11_byteAt 201 (μ 201 3) μ) μ) = 0) → isC 201 11 ∧ 0 = 0 ∧ True ∧ V_X11_advance R 198 [(0, kR 201)] (updm μ 201 6 0))) ∧ (¬ ((F_X11_isLetter (F_X11_byteAt 201 (μ 201 3) μ) μ) = 0) → V_X11_advance R 77 [(0, kR 201), (2, kL 0)] μ)) ∧ (¬ (0 ≤ (F_X11_byteAt 201 (μ 201 3) μ)) → isC 201 11 ∧ 0 = 0 ∧ True ∧ V_X11_advance R 65 [] (updm μ 201 5 0))
  exact ⟨c_201, ⟨c_201, H.1, ⟨H.2.1, fun hc5 => ⟨(H.2.2.1 hc5).1, ⟨(H.2.2.1 hc5).2.1, fun hc4 => ⟨((H.2.2.1 hc5).2.2.1 hc4).1, ⟨((H.2.2.1 hc5).2.2.1 hc4).2.1, fun hc3 => ⟨c_201, ⟨c_201, rfl, trivial, (((H.2.2.1 hc5).2.2.1 hc4).2.2.1 hc3)⟩⟩, fun hc3 => ⟨c_201, rfl, trivial, (((H.2.2.1 hc5).2.2.1 hc4).2.2.2 hc3)⟩⟩⟩, fun hc4 => ((H.2.2.1 hc5).2.2.2 hc4)⟩⟩, fun hc5 => ⟨c_201, rfl, trivial, (H.2.2.2 hc5)⟩⟩⟩⟩
set_option maxRecDepth 20000 in
theorem vc_X11_advance_65 {R : Mem → Option AV → Prop} {μ : Mem} (H : R μ none) : V_X11_advance R 65 [] μ := by
  refine vm_step2 mt_X11_advance ok_X11_advance [(0, [0]), (36, [0]), (47, [0]), (65, []), (77, [0, 2]), (135, [0, 2]), (165, [0]), (183, []), (198, [0]), (248, [0]), (258, [0]), (283, []), (296, [0, 1])] 1000 ?_
  show R μ none
  exact H
set_option maxRecDepth 20000 in
theorem vc_X11_advance_77 {R : Mem → Option AV → Prop} {v : Int} {μ : Mem} (H : P_X11_byteAt 201 (μ 201 3) μ ∧ P_X11_isLetter (F_X11_byteAt 201 (μ 201 3) μ) μ ∧ r32 (F_X11_isLetter (F_X11_byteAt 201 (μ 201 3) μ) μ) ∧ (((F_X11_isLetter (F_X11_byteAt 201 (μ 201 3) μ) μ) = 0) → r32 ((μ 201 3) - (μ 201 4)) ∧ ((((μ 201 3) - (μ 201 4)) ≤ (6 : Int)) → P_X11_wordOf v μ ∧ V_X11_advance R 165 [(0, kR 201)] (updm μ 201 7 (F_X11_wordOf v μ))) ∧ (¬ (((μ 201 3) - (μ 201 4)) ≤ (6 : Int)) → V_X11_advance R 165 [(0, kR 201)] (updm μ 201 7 99))) ∧ (¬ ((F_X11_isLetter (F_X11_byteAt 201 (μ 201 3) μ) μ) = 0) → r32 ((μ 201 3) - (μ 201 4)) ∧ (((7 : Int) ≤ ((μ 201 3) - (μ 201 4))) → V_X11_advance R 135 [(0, kR 201), (2, kL v)] (updm μ 201 3 ((μ 201 3) + 1))) ∧ (¬ ((7 : Int) ≤ ((μ 201 3) - (μ 201 4))) → P_X11_byteAt 201 (μ 201 3) μ ∧ r32 (F_X11_byteAt 201 (μ 201 3) μ) ∧ V_X11_advance R 135 [(0, kR 201), (2, kL (((32 * v) + (F_X11_byteAt 201 (μ 201 3) μ)) - 96))] (updm μ 201 3 ((μ 201 3) + 1))))) : V_X11_advance R 77 [(0, kR 201), (2, kL v)] μ := by
  refine vm_step2 mt_X11_advance ok_X11_advance [(0, [0]), (36, [0]), (47, [0]), (65, []), (77, [0, 2]), (135, [0, 2]), (165, [0]), (183, []), (198, [0]), (248, [0]), (258, [0]), (283, []), (296, [0, 1])] 1000 ?_
  show isC 201 11 ∧ isC 201 11 ∧ P_X11_byteAt 201 (μ 201 3) μ ∧ P_X11_isLetter (F_X11_byteAt 201 (μ 201 3) μ) μ ∧ r32 (F_X11_isLetter (F_X11_byteAt 201 (μ 201 3) μ) μ) ∧ (((F_X11_isLetter (F_X11_byteAt 201 (μ 201 3) μ) μ) = 0) → isC 201 11 ∧ isC 201 11 ∧ (r32 ((μ 201 3) - (μ 201 4)) ∧ r32 (6 : Int)) ∧ ((((μ 201 3) - (μ 201 4)) ≤ (6 : Int)) → P_X11_wordOf v μ ∧ isC 201 11 ∧ 0 = 0 ∧ True ∧ V_X11_advance R 165 [(0, kR 201)] (updm μ 201 7 (F_X11_wordOf v μ))) ∧ (¬ (((μ 201 3) - (μ 201 4)) ≤ (6 : Int)) → isC 201 11 ∧ 0 = 0 ∧ True ∧ V_X11_advance R 165 [(0, kR 201)] (updm μ 201 7 99))) ∧ (¬ ((F_X11_isLetter (F_X11_byteAt 201 (μ 201 3) μ) μ) = 0) → isC 201 11 ∧ isC 201 11 ∧ (r32 ((μ 201 3) - (μ 201 4)) ∧ r32 (7 : Int)) ∧ (((7 : Int) ≤ ((μ 201 3) - (μ 201 4))) → isC 201 11 ∧ isC 201 11 ∧ 0 = 0 ∧ True ∧ V_X11_advance R 135 [(0, kR 201), (2, kL v)] (updm μ 201 3 ((μ 201 3) + 1))) ∧ (¬ ((7 : Int) ≤ ((μ 201 3) - (μ 201 4))) → isC 201 11 ∧ isC 201 11 ∧ P_X11_byteAt 201 (μ 201 3) μ ∧ r32 (F_X11_byteAt 201 (μ 201 3) μ) ∧ isC 201 11 ∧ isC 201 11 ∧ 0 = 0 ∧ True ∧ V_X11_advance R 135 [(0, kR 201), (2, kL (((32 * v) + (F_X11_byteAt 201 (μ 201 3) μ)) - 96))] (updm μ 201 3 ((μ 201 3) + 1))))
  exact ⟨c_201, ⟨c_201, H.1, ⟨H.2.1, ⟨H.2.2.1, fun hc8 => ⟨c_201, ⟨c_201, ⟨⟨(H.2.2.2.1 hc8).1, by unfold r32; omega⟩, fun hc6 => ⟨((H.2.2.2.1 hc8).2.1 hc6).1, ⟨c_201, rfl, trivial, ((H.2.2.2.1 hc8).2.1 hc6).2⟩⟩, fun hc6 => ⟨c_201, rfl, trivial, ((H.2.2.2.1 hc8).2.2 hc6)⟩⟩⟩⟩, fun hc8 => ⟨c_201, ⟨c_201, ⟨⟨(H.2.2.2.2 hc8).1, by unfold r32; omega⟩, fun hc7 => ⟨c_201, ⟨c_201, rfl, trivial, ((H.2.2.2.2 hc8).2.1 hc7)⟩⟩, fun hc7 => ⟨c_201, ⟨c_201, ((H.2.2.2.2 hc8).2.2 hc7).1, ⟨((H.2.2.2.2 hc8).2.2 hc7).2.1, ⟨c_201, ⟨c_201, rfl, trivial, ((H.2.2.2.2 hc8).2.2 hc7).2.2⟩⟩⟩⟩⟩⟩⟩⟩⟩⟩⟩⟩
set_option maxRecDepth 20000 in
theorem vc_X11_advance_135 {R : Mem → Option AV → Prop} {v : Int} {μ : Mem} (H : V_X11_advance R 77 [(0, kR 201), (2, kL v)] μ) : V_X11_advance R 135 [(0, kR 201), (2, kL v)] μ := by
  refine vm_step2 mt_X11_advance ok_X11_advance [(0, [0]), (36, [0]), (47, [0]), (65, []), (77, [0, 2]), (135, [0, 2]), (165, [0]), (183, []), (198, [0]), (248, [0]), (258, [0]), (283, []), (296, [0, 1])] 1000 ?_
  show V_X11_advance R 77 [(0, kR 201), (2, kL v)] μ
  exact H
set_option maxRecDepth 20000 in
theorem vc_X11_advance_165 {R : Mem → Option AV → Prop} {μ : Mem} (H : r32 (μ 201 7) ∧ ((¬ (μ 201 7) = (99 : Int)) → V_X11_advance R 183 [] (updm μ 201 5 3)) ∧ (¬ (¬ (μ 201 7) = (99 : Int)) → V_X11_advance R 183 [] (updm μ 201 5 4))) : V_X11_advance R 165 [(0, kR 201)] μ := by
  refine vm_step2 mt_X11_advance ok_X11_advance [(0, [0]), (36, [0]), (47, [0]), (65, []), (77, [0, 2]), (135, [0, 2]), (165, [0]), (183, []), (198, [0]), (248, [0]), (258, [0]), (283, []), (296, [0, 1])] 1000 ?_
  show isC 201 11 ∧ (r32 (μ 201 7) ∧ r32 (99 : Int)) ∧ ((¬ (μ 201 7) = (99 : Int)) → isC 201 11 ∧ 0 = 0 ∧ True ∧ V_X11_advance R 183 [] (updm μ 201 5 3)) ∧ (¬ (¬ (μ 201 7) = (99 : Int)) → isC 201 11 ∧ 0 = 0 ∧ True ∧ V_X11_advance R 183 [] (updm μ 201 5 4))
  exact ⟨c_201, ⟨⟨H.1, by unfold r32; omega⟩, fun hc9 => ⟨c_201, rfl, trivial, (H.2.1 hc9)⟩, fun hc9 => ⟨c_201, rfl, trivial, (H.2.2 hc9)⟩⟩⟩
set_option maxRecDepth 20000 in
theorem vc_X11_advance_183 {R : Mem → Option AV → Prop} {μ : Mem} (H : R μ none) : V_X11_advance R 183 [] μ := by
  refine vm_step2 mt_X11_advance ok_X11_advance [(0, [0]), (36, [0]), (47, [0]), (65, []), (77, [0, 2]), (135, [0, 2]), (165, [0]), (183, []), (198, [0]), (248, [0]), (258, [0]), (283, []), (296, [0, 1])] 1000 ?_
  show R μ none
  exact H
set_option maxRecDepth 20000 in
theorem vc_X11_advance_198 {R : Mem → Option AV → Prop} {μ : Mem} (H : P_X11_byteAt 201 (μ 201 3) μ ∧ P_X11_isDigit (F_X11_byteAt 201 (μ 201 3) μ) μ ∧ r32 (F_X11_isDigit (F_X11_byteAt 201 (μ 201 3) μ) μ) ∧ (((F_X11_isDigit (F_X11_byteAt 201 (μ 201 3) μ) μ) = 0) → r32 ((μ 201 3) - (μ 201 4)) ∧ ((((μ 201 3) - (μ 201 4)) ≤ (4 : Int)) → V_X11_advance R 283 [] (updm μ 201 5 1)) ∧ (¬ (((μ 201 3) - (μ 201 4)) ≤ (4 : Int)) → V_X11_advance R 283 [] (updm μ 201 5 4))) ∧ (¬ ((F_X11_isDigit (F_X11_byteAt 201 (μ 201 3) μ) μ) = 0) → r32 ((μ 201 3) - (μ 201 4)) ∧ (((4 : Int) ≤ ((μ 201 3) - (μ 201 4))) → V_X11_advance R 248 [(0, kR 201)] μ) ∧ (¬ ((4 : Int) ≤ ((μ 201 3) - (μ 201 4))) → P_X11_byteAt 201 (μ 201 3) μ ∧ V_X11_advance R 248 [(0, kR 201)] (updm μ 201 6 (((10 * (μ 201 6)) + (F_X11_byteAt 201 (μ 201 3) μ)) - 48))))) : V_X11_advance R 198 [(0, kR 201)] μ := by
  refine vm_step2 mt_X11_advance ok_X11_advance [(0, [0]), (36, [0]), (47, [0]), (65, []), (77, [0, 2]), (135, [0, 2]), (165, [0]), (183, []), (198, [0]), (248, [0]), (258, [0]), (283, []), (296, [0, 1])] 1000 ?_
  show isC 201 11 ∧ isC 201 11 ∧ P_X11_byteAt 201 (μ 201 3) μ ∧ P_X11_isDigit (F_X11_byteAt 201 (μ 201 3) μ) μ ∧ r32 (F_X11_isDigit (F_X11_byteAt 201 (μ 201 3) μ) μ) ∧ (((F_X11_isDigit (F_X11_byteAt 201 (μ 201 3) μ) μ) = 0) → isC 201 11 ∧ isC 201 11 ∧ (r32 ((μ 201 3) - (μ 201 4)) ∧ r32 (4 : Int)) ∧ ((((μ 201 3) - (μ 201 4)) ≤ (4 : Int)) → isC 201 11 ∧ 0 = 0 ∧ True ∧ V_X11_advance R 283 [] (updm μ 201 5 1)) ∧ (¬ (((μ 201 3) - (μ 201 4)) ≤ (4 : Int)) → isC 201 11 ∧ 0 = 0 ∧ True ∧ V_X11_advance R 283 [] (updm μ 201 5 4))) ∧ (¬ ((F_X11_isDigit (F_X11_byteAt 201 (μ 201 3) μ) μ) = 0) → isC 201 11 ∧ isC 201 11 ∧ (r32 ((μ 201 3) - (μ 201 4)) ∧ r32 (4 : Int)) ∧ (((4 : Int) ≤ ((μ 201 3) - (μ 201 4))) → V_X11_advance R 248 [(0, kR 201)] μ) ∧ (¬ ((4 : Int) ≤ ((μ 201 3) - (μ 201 4))) → isC 201 11 ∧ isC 201 11 ∧ isC 201 11 ∧ P_X11_byteAt 201 (μ 201 3) μ ∧ isC 201 11 ∧ 0 = 0 ∧ True ∧ V_X11_advance R 248 [(0, kR 201)] (updm μ 201 6 (((10 * (μ 201 6)) + (F_X11_byteAt 201 (μ 201 3) μ)) - 48))))
  exact ⟨c_201, ⟨c_201, H.1, ⟨H.2.1, ⟨H.2.2.1, fun hc12 => ⟨c_201, ⟨c_201, ⟨⟨(H.2.2.2.1 hc12).1, by unfold r32; omega⟩, fun hc10 => ⟨c_201, rfl, trivial, ((H.2.2.2.1 hc12).2.1 hc10)⟩, fun hc10 => ⟨c_201, rfl, trivial, ((H.2.2.2.1 hc12).2.2 hc10)⟩⟩⟩⟩, fun hc12 => ⟨c_201, ⟨c_201, ⟨⟨(H.2.2.2.2 hc12).1, by unfold r32; omega⟩, fun hc11 => ((H.2.2.2.2 hc12).2.1 hc11), fun hc11 => ⟨c_201, ⟨c_201, ⟨c_201, ((H.2.2.2.2 hc12).2.2 hc11).1, ⟨c_201, rfl, trivial, ((H.2.2.2.2 hc12).2.2 hc11).2⟩⟩⟩⟩⟩⟩⟩⟩⟩⟩⟩
set_option maxRecDepth 20000 in
theorem vc_X11_advance_248 {R : Mem → Option AV → Prop} {μ : Mem} (H : V_X11_advance R 258 [(0, kR 201)] (updm μ 201 3 ((μ 201 3) + 1))) : V_X11_advance R 248 [(0, kR 201)] μ := by
  refine vm_step2 mt_X11_advance ok_X11_advance [(0, [0]), (36, [0]), (47, [0]), (65, []), (77, [0, 2]), (135, [0, 2]), (165, [0]), (183, []), (198, [0]), (248, [0]), (258, [0]), (283, []), (296, [0, 1])] 1000 ?_
  show isC 201 11 ∧ isC 201 11 ∧ 0 = 0 ∧ True ∧ V_X11_advance R 258 [(0, kR 201)] (updm μ 201 3 ((μ 201 3) + 1))
  exact ⟨c_201, ⟨c_201, rfl, trivial, H⟩⟩
set_option maxRecDepth 20000 in
theorem vc_X11_advance_258 {R : Mem → Option AV → Prop} {μ : Mem} (H : V_X11_advance R 198 [(0, kR 201)] μ) : V_X11_advance R 258 [(0, kR 201)] μ := by
  refine vm_step2 mt_X11_advance ok_X11_advance [(0, [0]), (36, [0]), (47, [0]), (65, []), (77, [0, 2]), (135, [0, 2]), (165, [0]), (183, []), (198, [0]), (248, [0]), (258, [0]), (283, []), (296, [0, 1])] 1000 ?_
  show V_X11_advance R 198 [(0, kR 201)] μ
  exact H
set_option maxRecDepth 20000 in
theorem vc_X11_advance_283 {R : Mem → Option AV → Prop} {μ : Mem} (H : R μ none) : V_X11_advance R 283 [] μ := by
  refine vm_step2 mt_X11_advance ok_X11_advance [(0, [0]), (36, [0]), (47, [0]), (65, []), (77, [0, 2]), (135, [0, 2]), (165, [0]), (183, []), (198, [0]), (248, [0]), (258, [0]), (283, []), (296, [0, 1])] 1000 ?_
  show R μ none
  exact H
set_option maxRecDepth 20000 in
theorem vc_X11_advance_296 {R : Mem → Option AV → Prop} {c : Int} {μ : Mem} (H : r32 c ∧ ((¬ c = (59 : Int)) → R (updm μ 201 5 4) none) ∧ (¬ (¬ c = (59 : Int)) → R (updm μ 201 5 2) none)) : V_X11_advance R 296 [(0, kR 201), (1, kI c)] μ := by
  refine vm_step2 mt_X11_advance ok_X11_advance [(0, [0]), (36, [0]), (47, [0]), (65, []), (77, [0, 2]), (135, [0, 2]), (165, [0]), (183, []), (198, [0]), (248, [0]), (258, [0]), (283, []), (296, [0, 1])] 1000 ?_
  show (r32 c ∧ r32 (59 : Int)) ∧ ((¬ c = (59 : Int)) → isC 201 11 ∧ 0 = 0 ∧ True ∧ R (updm μ 201 5 4) none) ∧ (¬ (¬ c = (59 : Int)) → isC 201 11 ∧ 0 = 0 ∧ True ∧ R (updm μ 201 5 2) none)
  exact ⟨⟨H.1, by unfold r32; omega⟩, fun hc13 => ⟨c_201, rfl, trivial, (H.2.1 hc13)⟩, fun hc13 => ⟨c_201, rfl, trivial, (H.2.2 hc13)⟩⟩
theorem wordN_k {tx : Int → Int} {p q : Int} (hq : p < q ∧ q ≤ p + 6) (hl : ∀ i : Int, p ≤ i → i < q → isLet (tx i) = true) (hd : isDig (tx p) = false) (h9 : tx p ≠ 59) : wordN (hshT tx p (q - p)) = if kindT tx p q = 10 then 99 else kindT tx p q - 2 := by
  obtain ⟨h1, h2, h3, h4, h5, h6, h7⟩ := word_say hq hl
  unfold wordN kindT
  rw [if_neg (show ¬ isDig (tx p) = true by rw [hd]; decide), if_neg (show ¬ tx p = 59 from h9)]
  by_cases a : hshT tx p (q - p) = 549489843
  · rw [if_pos a, if_pos (h1.mpr a), if_neg (by decide)]; rfl
  rw [if_neg a, if_neg (fun w => a (h1.mp w))]
  by_cases b : hshT tx p (q - p) = 394693
  · rw [if_pos b, if_pos (h2.mpr b), if_neg (by decide)]; rfl
  rw [if_neg b, if_neg (fun w => b (h2.mp w))]
  by_cases c : hshT tx p (q - p) = 109099109
  · rw [if_pos c, if_pos (h3.mpr c), if_neg (by decide)]; rfl
  rw [if_neg c, if_neg (fun w => c (h3.mp w))]
  by_cases d : hshT tx p (q - p) = 4583
  · rw [if_pos d, if_pos (h4.mpr d), if_neg (by decide)]; rfl
  rw [if_neg d, if_neg (fun w => d (h4.mp w))]
  by_cases e : hshT tx p (q - p) = 4391
  · rw [if_pos e, if_pos (h5.mpr e), if_neg (by decide)]; rfl
  rw [if_neg e, if_neg (fun w => e (h5.mp w))]
  by_cases f : hshT tx p (q - p) = 17377093
  · rw [if_pos f, if_pos (h6.mpr f), if_neg (by decide)]; rfl
  rw [if_neg f, if_neg (fun w => f (h6.mp w))]
  by_cases g : hshT tx p (q - p) = 442053
  · rw [if_pos g, if_pos (h7.mpr g), if_neg (by decide)]; rfl
  rw [if_neg g, if_neg (fun w => g (h7.mp w)), if_pos rfl]
theorem long_k {tx : Int → Int} {p q : Int} (hq : p + 6 < q) (hd : isDig (tx p) = false) (h9 : tx p ≠ 59) : kindT tx p q = 10 := by
  have no : ∀ w : Nat, w < 8 → sayT tx p q (w : Int) = true → False := fun w hw h => by
    unfold sayT at h
    have h1 := of_decide_eq_true (Bool.and_eq_true _ _ |>.mp h).1
    have : ∀ w : Nat, w < 8 → SN w ≤ 6 := by decide +kernel
    have := this w hw
    rw [show ((w : Int)).toNat = w by omega] at h1
    omega
  unfold kindT
  rw [if_neg (show ¬ isDig (tx p) = true by rw [hd]; decide), if_neg (show ¬ tx p = 59 from h9), if_neg (show ¬ sayT tx p q 1 = true from fun w => no 1 (by omega) w), if_neg (show ¬ sayT tx p q 2 = true from fun w => no 2 (by omega) w), if_neg (show ¬ sayT tx p q 3 = true from fun w => no 3 (by omega) w), if_neg (show ¬ sayT tx p q 4 = true from fun w => no 4 (by omega) w), if_neg (show ¬ sayT tx p q 5 = true from fun w => no 5 (by omega) w), if_neg (show ¬ sayT tx p q 6 = true from fun w => no 6 (by omega) w), if_neg (show ¬ sayT tx p q 7 = true from fun w => no 7 (by omega) w)]
theorem let_k {tx : Int → Int} {p q : Int} (hd : isDig (tx p) = false) (h9 : tx p ≠ 59) : 3 ≤ kindT tx p q ∧ kindT tx p q ≤ 10 := by
  unfold kindT
  rw [if_neg (show ¬ isDig (tx p) = true by rw [hd]; decide), if_neg (show ¬ tx p = 59 from h9)]
  repeat' split
  all_goals omega
theorem one_k {tx : Int → Int} {p q : Int} (hq : q = p + 1) (hd : isDig (tx p) = false) (h9 : tx p ≠ 59) : kindT tx p q = 10 := by
  have no : ∀ w : Nat, 1 ≤ w → w < 8 → sayT tx p q (w : Int) = true → False := fun w w1 hw h => by
    unfold sayT at h
    have h1 := of_decide_eq_true (Bool.and_eq_true _ _ |>.mp h).1
    have : ∀ w : Nat, w < 8 → 1 ≤ w → 3 ≤ SN w := by decide +kernel
    have := this w hw w1
    rw [show ((w : Int)).toNat = w by omega] at h1
    omega
  unfold kindT
  rw [if_neg (show ¬ isDig (tx p) = true by rw [hd]; decide), if_neg (show ¬ tx p = 59 from h9), if_neg (show ¬ sayT tx p q 1 = true from fun w => no 1 (by omega) (by omega) w), if_neg (show ¬ sayT tx p q 2 = true from fun w => no 2 (by omega) (by omega) w), if_neg (show ¬ sayT tx p q 3 = true from fun w => no 3 (by omega) (by omega) w), if_neg (show ¬ sayT tx p q 4 = true from fun w => no 4 (by omega) (by omega) w), if_neg (show ¬ sayT tx p q 5 = true from fun w => no 5 (by omega) (by omega) w), if_neg (show ¬ sayT tx p q 6 = true from fun w => no 6 (by omega) (by omega) w), if_neg (show ¬ sayT tx p q 7 = true from fun w => no 7 (by omega) (by omega) w)]
theorem body_X11_advance {o : Int} {μ : Mem} {R : Mem → Option AV → Prop} (h : P_X11_advance o μ) (hR : ∀ μ' : Mem, Q_X11_advance o μ μ' → R μ' none) : V_X11_advance R 0 [(0, kR o)] μ := by
  obtain ⟨rfl, hb, hx⟩ := h
  obtain ⟨n, en⟩ : ∃ n : Int, n = μ 201 2 := ⟨_, rfl⟩
  obtain ⟨tx, et⟩ : ∃ tx : Int → Int, tx = TX μ := ⟨_, rfl⟩
  obtain ⟨x, ex⟩ : ∃ x : Int, x = μ 201 3 := ⟨_, rfl⟩
  unfold Q_X11_advance at hR
  rw [← en, ← et, ← ex] at hR
  have hn := hb.1
  rw [← en] at hn
  rw [← en, ← ex] at hx
  have by1 : ∀ p : Int, 0 ≤ p → p < n → (0 ≤ μ 202 (10 + p) ∧ μ 202 (10 + p) ≤ 255) ∧ (isLet (tx p) = isLet (μ 202 (10 + p))) ∧ (isDig (tx p) = isDig (μ 202 (10 + p))) ∧ (isBl (tx p) = isBl (μ 202 (10 + p))) ∧ (tx p = 59 ↔ μ 202 (10 + p) = 59) ∧ ((isLet (μ 202 (10 + p)) = true ∨ isDig (μ 202 (10 + p)) = true) → tx p = μ 202 (10 + p)) := fun p p0 p1 => by
    have hc := hb.2 p p0 (by omega)
    have e : tx p = Int.bmod (μ 202 (10 + p)) 256 := by rw [et]; exact TX_at p0 (by omega)
    rw [e]
    exact ⟨hc, byte_s hc.1 hc.2⟩
  obtain ⟨F, eF⟩ : ∃ F : Mem → Prop, ∀ m, F m = ((∀ f : Int, (f < 3 ∨ 7 < f) → m 201 f = μ 201 f) ∧ ∀ z : Int, z ≠ 201 → m z = μ z) := ⟨_, fun _ => rfl⟩
  have Fput : ∀ (m : Mem) (f w : Int), F m → 3 ≤ f → f ≤ 7 → F (updm m 201 f w) := fun m f w hf f0 f1 => by
    rw [eF] at hf ⊢
    exact ⟨fun g hg => by rw [ru_eq, r1_ne (by omega), hf.1 g hg], fun z hz => by rw [ru_ne hz, hf.2 z hz]⟩
  have fr : ∀ m : Mem, F m → m 201 2 = n ∧ m 202 = μ 202 := fun m hf => by
    rw [eF] at hf
    exact ⟨by rw [hf.1 2 (by omega), en], hf.2 202 (by omega)⟩
  have bA : ∀ (m : Mem) (p : Int), F m → 0 ≤ p → p ≤ n → P_X11_byteAt 201 p m ∧ F_X11_byteAt 201 p m = if p < n then μ 202 (10 + p) else -1 := fun m p hf p0 p1 => by
    obtain ⟨e2, e202⟩ := fr m hf
    refine ⟨⟨rfl, by omega, by omega, by omega⟩, ?_⟩
    unfold F_X11_byteAt
    rw [e2, e202]
  obtain ⟨S, eS⟩ : ∃ S : Int, S = skpT tx x n := ⟨_, rfl⟩
  have Sb := skp_bd (tx := tx) hx.2
  rw [← eS] at Sb
  unfold AdvX kX nxtT at hR
  rw [← eS] at hR
  -- letters
  have lets : ∀ (k : Nat) (y v : Int) (m : Mem), n - y ≤ k → S ≤ y → y ≤ n → F m → m 201 3 = y → m 201 4 = S → (∀ i : Int, S ≤ i → i < y → isLet (tx i) = true) → runE (fun i => isLet (tx i)) y n = endT tx S n → v = hshT tx S (min (y - S) 7) → S < n → isLet (tx S) = true → V_X11_advance R 77 [(0, kR 201), (2, kL v)] m := by
    have stop : ∀ (y v : Int) (m : Mem), S ≤ y → y ≤ n → F m → m 201 3 = y → m 201 4 = S → (∀ i : Int, S ≤ i → i < y → isLet (tx i) = true) → ¬ (y < n ∧ isLet (tx y) = true) → y = endT tx S n → v = hshT tx S (min (y - S) 7) → S < n → isLet (tx S) = true → V_X11_advance R 77 [(0, kR 201), (2, kL v)] m := by
      intro y v m y0 y1 hF h3 h4 hl hno hy hv hSn hSl
      have bS := by1 S (by omega) hSn
      have ySl : S < y := Classical.byContradiction fun q => by
        have : y = S := by omega
        rw [this] at hno
        exact hno ⟨hSn, hSl⟩
      have l97 := of_decide_eq_true hSl
      have nd : isDig (tx S) = false := decide_eq_false (by omega)
      have n9 : tx S ≠ 59 := by omega
      have kb := let_k (q := y) nd n9
      obtain ⟨pb, fb⟩ := bA m y hF (by omega) y1
      have fin : ∀ (m2 : Mem) (t : Int), F m2 → m2 201 3 = y → m2 201 4 = S → t = tokM (kindT tx S y) → (kindT tx S y ≤ 9 → m2 201 7 = kindT tx S y - 2) → R (updm m2 201 5 t) none := fun m2 t hF2 g3 g4 ht hw => by
        have hF3 := Fput m2 5 t hF2 (by omega) (by omega)
        rw [eF] at hF3
        refine hR _ ⟨⟨by rw [ru_eq, r1_ne (by omega), g4], ?_, ?_, fun _ q => ?_, fun q => ?_⟩, hF3.1, hF3.2⟩
        · rw [if_pos hSn, ru_eq, r1_ne (by omega), g3, hy]
        · rw [if_pos hSn, ru_eq, r1_eq, ht, hy]
        · rw [if_pos hSn, ← hy] at q ⊢
          rw [ru_eq, r1_ne (by omega), hw q]
        · rw [if_pos hSn, ← hy] at q
          omega
      have f0 : (if (isLet (if y < n then μ 202 (10 + y) else -1) = true) then (1 : Int) else 0) = 0 := by
        by_cases q : y < n
        · rw [if_pos q, ← (by1 y (by omega) q).2.1]
          rw [if_neg (fun w => hno ⟨q, w⟩)]
        · rw [if_neg q]
          rfl
      refine vc_X11_advance_77 ?_
      rw [h3, h4, fb]
      unfold F_X11_isLetter
      rw [f0]
      refine ⟨pb, ?_, rr (by omega), fun _ => ⟨rr (by omega), fun q => ?_, fun q => ?_⟩, fun q => absurd rfl q⟩
      · show r32 _
        split
        · rename_i q
          have := (by1 y (by omega) q).1
          exact rr (by omega)
        · exact rr (by omega)
      · have ej : min (y - S) 7 = y - S := by omega
        rw [ej] at hv
        have hbd := hsh_bd (tx := tx) (p := S) (n := y - S) (fun i i0 i1 => hl (S + i) (by omega) (by omega)) (by omega)
        have pw6 : pw 32 (y - S) ≤ 1073741824 := by
          have h : y - S = 0 ∨ y - S = 1 ∨ y - S = 2 ∨ y - S = 3 ∨ y - S = 4 ∨ y - S = 5 ∨ y - S = 6 := by omega
          rcases h with h | h | h | h | h | h | h <;> rw [h] <;> decide +kernel
        have wk := wordN_k (q := y) ⟨ySl, by omega⟩ hl nd n9
        rw [← hv] at wk
        refine ⟨rl (by omega), ?_⟩
        unfold F_X11_wordOf
        rw [wk]
        obtain ⟨m2, em2⟩ : ∃ m2, m2 = updm m 201 7 (if kindT tx S y = 10 then 99 else kindT tx S y - 2) := ⟨_, rfl⟩
        rw [← em2]
        have e7 : m2 201 7 = if kindT tx S y = 10 then 99 else kindT tx S y - 2 := by rw [em2, ru_eq, r1_eq]
        have hF2 : F m2 := by rw [em2]; exact Fput m 7 _ hF (by omega) (by omega)
        have g3 : m2 201 3 = y := by rw [em2, ru_eq, r1_ne (by omega), h3]
        have g4 : m2 201 4 = S := by rw [em2, ru_eq, r1_ne (by omega), h4]
        refine vc_X11_advance_165 ?_
        rw [e7]
        by_cases k10 : kindT tx S y = 10
        · rw [if_pos k10]
          exact ⟨rr (by omega), fun w => absurd rfl w, fun _ => vc_X11_advance_183 (fin m2 4 hF2 g3 g4 (by rw [k10]; rfl) (fun w => by omega))⟩
        · rw [if_neg k10]
          refine ⟨rr (by omega), fun _ => vc_X11_advance_183 (fin m2 3 hF2 g3 g4 ?_ (fun w => by rw [e7, if_neg k10])), fun w => absurd (show kindT tx S y - 2 = 99 from Classical.not_not.mp w) (by omega)⟩
          exact ((tokM_at (k := kindT tx S y) (by omega) (by omega)).2.2.2.2.mpr (by omega)).symm
      · have k10 := long_k (q := y) (by omega) nd n9
        obtain ⟨m2, em2⟩ : ∃ m2, m2 = updm m 201 7 99 := ⟨_, rfl⟩
        rw [← em2]
        have e7 : m2 201 7 = 99 := by rw [em2, ru_eq, r1_eq]
        have hF2 : F m2 := by rw [em2]; exact Fput m 7 _ hF (by omega) (by omega)
        have g3 : m2 201 3 = y := by rw [em2, ru_eq, r1_ne (by omega), h3]
        have g4 : m2 201 4 = S := by rw [em2, ru_eq, r1_ne (by omega), h4]
        refine vc_X11_advance_165 ?_
        rw [e7]
        exact ⟨rr (by omega), fun w => absurd rfl w, fun _ => vc_X11_advance_183 (fin m2 4 hF2 g3 g4 (by rw [k10]; rfl) (fun w => by omega))⟩
    intro k
    induction k with
    | zero =>
      intro y v m hk y0 y1 hF h3 h4 hl hr hv hSn hSl
      have hno : ¬ (y < n ∧ isLet (tx y) = true) := fun q => by omega
      rw [runE_e hno] at hr
      exact stop y v m y0 y1 hF h3 h4 hl hno hr hv hSn hSl
    | succ k ih =>
      intro y v m hk y0 y1 hF h3 h4 hl hr hv hSn hSl
      by_cases hno : y < n ∧ isLet (tx y) = true
      · rw [runE_s hno.1 hno.2] at hr
        obtain ⟨pb, fb⟩ := bA m y hF (by omega) y1
        have b := by1 y (by omega) hno.1
        rw [if_pos hno.1] at fb
        have cl : isLet (μ 202 (10 + y)) = true := by rw [← b.2.1]; exact hno.2
        have ec := b.2.2.2.2.2 (Or.inl cl)
        have nx : ∀ v' : Int, v' = hshT tx S (min (y + 1 - S) 7) → V_X11_advance R 135 [(0, kR 201), (2, kL v')] (updm m 201 3 (y + 1)) := fun v' hv' => by
          refine vc_X11_advance_135 (ih (y + 1) v' _ (by omega) (by omega) (by omega) (Fput m 3 _ hF (by omega) (by omega)) (by rw [ru_eq, r1_eq]) (by rw [ru_eq, r1_ne (by omega), h4]) (fun i i0 i1 => ?_) hr hv' hSn hSl)
          by_cases e : i = y
          · rw [e]; exact hno.2
          · exact hl i i0 (by omega)
        refine vc_X11_advance_77 ?_
        rw [h3, h4, fb]
        unfold F_X11_isLetter
        rw [if_pos cl]
        refine ⟨pb, rr (by omega), rr (by omega), fun q => absurd q (by omega), fun _ => ⟨rr (by omega), fun q => nx v ?_, fun q => ⟨pb, rr (by omega), nx _ ?_⟩⟩⟩
        · rw [hv, show min (y + 1 - S) 7 = min (y - S) 7 by omega]
        · have e1 : min (y - S) 7 = y - S := by omega
          rw [e1] at hv
          rw [show min (y + 1 - S) 7 = y - S + 1 by omega, hshT_s (by omega), ← hv, show S + (y - S) = y by omega, ec]
      · rw [runE_e hno] at hr
        exact stop y v m y0 y1 hF h3 h4 hl hno hr hv hSn hSl
  -- digits
  have digs : ∀ (k : Nat) (y : Int) (m : Mem), n - y ≤ k → S ≤ y → y ≤ n → F m → m 201 3 = y → m 201 4 = S → runE (fun i => isDig (tx i)) y n = endT tx S n → m 201 6 = fold (fun x i => x * 10 + (tx (S + i) - 48)) 0 (min (y - S) 4) → S < n → isDig (tx S) = true → V_X11_advance R 198 [(0, kR 201)] m := by
    have stop : ∀ (y : Int) (m : Mem), S ≤ y → y ≤ n → F m → m 201 3 = y → m 201 4 = S → ¬ (y < n ∧ isDig (tx y) = true) → y = endT tx S n → m 201 6 = fold (fun x i => x * 10 + (tx (S + i) - 48)) 0 (min (y - S) 4) → S < n → isDig (tx S) = true → V_X11_advance R 198 [(0, kR 201)] m := by
      intro y m y0 y1 hF h3 h4 hno hy hv hSn hSd
      obtain ⟨pb, fb⟩ := bA m y hF (by omega) y1
      have ek : kindT tx S y = if y - S ≤ 4 then 2 else 10 := by unfold kindT; rw [if_pos hSd]
      have fin : ∀ t : Int, t = tokM (kindT tx S y) → V_X11_advance R 283 [] (updm m 201 5 t) := fun t ht => by
        have hF3 := Fput m 5 t hF (by omega) (by omega)
        rw [eF] at hF3
        refine vc_X11_advance_283 (hR _ ⟨⟨by rw [ru_eq, r1_ne (by omega), h4], ?_, ?_, fun q1 q2 => ?_, fun q => ?_⟩, hF3.1, hF3.2⟩)
        · rw [if_pos hSn, ru_eq, r1_ne (by omega), h3, hy]
        · rw [if_pos hSn, ru_eq, r1_eq, ht, hy]
        · rw [if_pos hSn, ← hy, ek] at q1 q2
          split at q1 <;> omega
        · rw [ru_eq, r1_ne (by omega), hv, ← hy]
          unfold valT
          rw [show max 0 (min (y - S) 4) = min (y - S) 4 by omega]
      have f0 : (if (isDig (if y < n then μ 202 (10 + y) else -1) = true) then (1 : Int) else 0) = 0 := by
        by_cases q : y < n
        · rw [if_pos q, ← (by1 y (by omega) q).2.2.1]
          rw [if_neg (fun w => hno ⟨q, w⟩)]
        · rw [if_neg q]
          rfl
      refine vc_X11_advance_198 ?_
      rw [h3, h4, fb]
      unfold F_X11_isDigit
      rw [f0]
      refine ⟨pb, ?_, rr (by omega), fun _ => ⟨rr (by omega), fun q => fin 1 (by rw [ek, if_pos q]; rfl), fun q => fin 4 (by rw [ek, if_neg q]; rfl)⟩, fun q => absurd rfl q⟩
      show r32 _
      split
      · rename_i q
        have := (by1 y (by omega) q).1
        exact rr (by omega)
      · exact rr (by omega)
    intro k
    induction k with
    | zero =>
      intro y m hk y0 y1 hF h3 h4 hr hv hSn hSd
      have hno : ¬ (y < n ∧ isDig (tx y) = true) := fun q => by omega
      rw [runE_e hno] at hr
      exact stop y m y0 y1 hF h3 h4 hno hr hv hSn hSd
    | succ k ih =>
      intro y m hk y0 y1 hF h3 h4 hr hv hSn hSd
      by_cases hno : y < n ∧ isDig (tx y) = true
      · rw [runE_s hno.1 hno.2] at hr
        obtain ⟨pb, fb⟩ := bA m y hF (by omega) y1
        have b := by1 y (by omega) hno.1
        rw [if_pos hno.1] at fb
        have cl : isDig (μ 202 (10 + y)) = true := by rw [← b.2.2.1]; exact hno.2
        have ec := b.2.2.2.2.2 (Or.inr cl)
        have nx : ∀ m2 : Mem, F m2 → m2 201 3 = y → m2 201 4 = S → m2 201 6 = fold (fun x i => x * 10 + (tx (S + i) - 48)) 0 (min (y + 1 - S) 4) → V_X11_advance R 248 [(0, kR 201)] m2 := fun m2 hF2 g3 g4 g6 => by
          refine vc_X11_advance_248 ?_
          rw [g3]
          exact vc_X11_advance_258 (ih (y + 1) _ (by omega) (by omega) (by omega) (Fput m2 3 _ hF2 (by omega) (by omega)) (by rw [ru_eq, r1_eq]) (by rw [ru_eq, r1_ne (by omega), g4]) hr (by rw [ru_eq, r1_ne (by omega), g6]) hSn hSd)
        refine vc_X11_advance_198 ?_
        rw [h3, h4, fb]
        unfold F_X11_isDigit
        rw [if_pos cl]
        refine ⟨pb, rr (by omega), rr (by omega), fun q => absurd q (by omega), fun _ => ⟨rr (by omega), fun q => nx m hF h3 h4 (by rw [hv, show min (y + 1 - S) 4 = min (y - S) 4 by omega]), fun q => ⟨pb, nx _ (Fput m 6 _ hF (by omega) (by omega)) (by rw [ru_eq, r1_ne (by omega), h3]) (by rw [ru_eq, r1_ne (by omega), h4]) ?_⟩⟩⟩
        rw [ru_eq, r1_eq, hv, show min (y + 1 - S) 4 = y - S + 1 by omega, show min (y - S) 4 = y - S by omega, fold_s (by omega), show S + (y - S) = y by omega, ec]
        omega
      · rw [runE_e hno] at hr
        exact stop y m y0 y1 hF h3 h4 hno hr hv hSn hSd
  -- the token
  have tok : ∀ m : Mem, F m → m 201 3 = S → m 201 4 = S → V_X11_advance R 47 [(0, kR 201)] m := by
    intro m hF h3 h4
    obtain ⟨pb, fb⟩ := bA m S hF (by omega) Sb.2
    refine vc_X11_advance_47 ?_
    rw [h3, fb]
    by_cases hSn : S < n
    · rw [if_pos hSn]
      have b := by1 S (by omega) hSn
      refine ⟨pb, rr (by omega), fun _ => ⟨rr (by omega), ?_⟩, fun q => absurd b.1.1 q⟩
      unfold F_X11_isLetter
      by_cases cl : isLet (μ 202 (10 + S)) = true
      · rw [if_pos cl]
        have cl' : isLet (tx S) = true := by rw [b.2.1]; exact cl
        refine ⟨rr (by omega), fun q => absurd q (by omega), fun _ => lets (n - S).toNat S 0 m (by omega) (Int.le_refl _) Sb.2 hF h3 h4 (fun i i0 i1 => by omega) ?_ (by rw [show min (S - S) 7 = 0 by omega]; rfl) hSn cl'⟩
        rw [runE_s hSn cl']
        unfold endT
        rw [if_pos cl']
      · rw [if_neg cl]
        have cl' : ¬ isLet (tx S) = true := by rw [b.2.1]; exact cl
        refine ⟨rr (by omega), fun _ => ⟨rr (by omega), ?_⟩, fun q => absurd rfl q⟩
        unfold F_X11_isDigit
        by_cases cd : isDig (μ 202 (10 + S)) = true
        · rw [if_pos cd]
          have cd' : isDig (tx S) = true := by rw [b.2.2.1]; exact cd
          refine ⟨rr (by omega), fun q => absurd q (by omega), fun _ => digs (n - S).toNat S _ (by omega) (Int.le_refl _) Sb.2 (Fput m 6 0 hF (by omega) (by omega)) (by rw [ru_eq, r1_ne (by omega), h3]) (by rw [ru_eq, r1_ne (by omega), h4]) ?_ (by rw [ru_eq, r1_eq, show min (S - S) 4 = 0 by omega]; rfl) hSn cd'⟩
          rw [runE_s hSn cd']
          unfold endT
          rw [if_neg cl', if_pos cd']
        · rw [if_neg cd]
          have cd' : isDig (tx S) = false := by
            cases q : isDig (tx S)
            · rfl
            · exact absurd (by rw [← b.2.2.1]; exact q) cd
          have ee : endT tx S n = S + 1 := by
            unfold endT
            rw [if_neg cl', if_neg (show ¬ isDig (tx S) = true by rw [cd']; decide)]
          refine ⟨rr (by omega), fun _ => vc_X11_advance_296 ?_, fun q => absurd rfl q⟩
          have fin : ∀ t : Int, t = tokM (kindT tx S (S + 1)) → (kindT tx S (S + 1) = 1 ∨ kindT tx S (S + 1) = 10) → R (updm (updm m 201 3 (S + 1)) 201 5 t) none := fun t ht hk => by
            have hF3 := Fput _ 5 t (Fput m 3 (S + 1) hF (by omega) (by omega)) (by omega) (by omega)
            rw [eF] at hF3
            refine hR _ ⟨⟨by rw [ru_eq, r1_ne (by omega), ru_eq, r1_ne (by omega), h4], ?_, ?_, fun q1 q2 => ?_, fun q => ?_⟩, hF3.1, hF3.2⟩
            · rw [if_pos hSn, ru_eq, r1_ne (by omega), ru_eq, r1_eq, ee]
            · rw [if_pos hSn, ru_eq, r1_eq, ht, ee]
            · rw [if_pos hSn, ee] at q1 q2
              omega
            · rw [if_pos hSn, ee] at q
              omega
          refine ⟨rr (by omega), fun q => ?_, fun q => ?_⟩
          · have k10 := one_k (q := S + 1) rfl cd' (fun w => q (b.2.2.2.2.1.mp w))
            exact fin 4 (by rw [k10]; rfl) (Or.inr k10)
          · have k1 : kindT tx S (S + 1) = 1 := by
              unfold kindT
              rw [if_neg (show ¬ isDig (tx S) = true by rw [cd']; decide), if_pos (b.2.2.2.2.1.mpr (Classical.not_not.mp q))]
            exact fin 2 (by rw [k1]; rfl) (Or.inl k1)
    · rw [if_neg hSn]
      refine ⟨pb, rr (by omega), fun q => absurd q (by omega), fun _ => vc_X11_advance_65 ?_⟩
      have hF3 := Fput m 5 0 hF (by omega) (by omega)
      rw [eF] at hF3
      refine hR _ ⟨⟨by rw [ru_eq, r1_ne (by omega), h4], ?_, ?_, fun q1 q2 => ?_, fun q => ?_⟩, hF3.1, hF3.2⟩
      · rw [if_neg hSn, ru_eq, r1_ne (by omega), h3]; omega
      · rw [if_neg hSn, ru_eq, r1_eq]; rfl
      · rw [if_neg hSn] at q1; omega
      · rw [if_neg hSn] at q; omega
  -- blanks
  have skip : ∀ (k : Nat) (y : Int) (m : Mem), n - y ≤ k → 0 ≤ y → y ≤ n → F m → m 201 3 = y → runE (fun i => isBl (tx i)) y n = S → V_X11_advance R 0 [(0, kR 201)] m := by
    have stop : ∀ (y : Int) (m : Mem), 0 ≤ y → y ≤ n → F m → m 201 3 = y → ¬ (y < n ∧ isBl (tx y) = true) → y = S → V_X11_advance R 0 [(0, kR 201)] m := fun y m y0 y1 hF h3 hno hy => by
      obtain ⟨pb, fb⟩ := bA m y hF y0 y1
      have ne : (if y < n then μ 202 (10 + y) else -1) ≠ 10 ∧ (if y < n then μ 202 (10 + y) else -1) ≠ 32 := by
        by_cases q : y < n
        · rw [if_pos q]
          have b := by1 y y0 q
          have nb : ¬ isBl (μ 202 (10 + y)) = true := fun w => hno ⟨q, by rw [b.2.2.2.1]; exact w⟩
          unfold isBl at nb
          rw [decide_eq_true_eq] at nb
          omega
        · rw [if_neg q]; omega
      have r3 : r32 (if y < n then μ 202 (10 + y) else -1) := by
        split
        · rename_i q
          have := (by1 y y0 q).1
          exact rr (by omega)
        · exact rr (by omega)
      refine vc_X11_advance_0 ?_
      rw [h3, fb]
      exact ⟨pb, r3, fun q => absurd q ne.1, fun _ => ⟨pb, r3, fun _ => tok _ (Fput m 4 _ hF (by omega) (by omega)) (by rw [ru_eq, r1_ne (by omega), h3, hy]) (by rw [ru_eq, r1_eq, hy]), fun q => absurd ne.2 q⟩⟩
    intro k
    induction k with
    | zero =>
      intro y m hk y0 y1 hF h3 hr
      have hno : ¬ (y < n ∧ isBl (tx y) = true) := fun q => by omega
      rw [runE_e hno] at hr
      exact stop y m y0 y1 hF h3 hno hr
    | succ k ih =>
      intro y m hk y0 y1 hF h3 hr
      by_cases hno : y < n ∧ isBl (tx y) = true
      · rw [runE_s hno.1 hno.2] at hr
        obtain ⟨pb, fb⟩ := bA m y hF y0 y1
        rw [if_pos hno.1] at fb
        have b := by1 y y0 hno.1
        have cb : isBl (μ 202 (10 + y)) = true := by rw [← b.2.2.2.1]; exact hno.2
        have cb := of_decide_eq_true cb
        have nx : V_X11_advance R 36 [(0, kR 201)] (updm m 201 3 (y + 1)) := vc_X11_advance_36 (ih (y + 1) _ (by omega) (by omega) (by omega) (Fput m 3 _ hF (by omega) (by omega)) (by rw [ru_eq, r1_eq]) hr)
        refine vc_X11_advance_0 ?_
        rw [h3, fb]
        exact ⟨pb, rr (by omega), fun _ => nx, fun q => ⟨pb, rr (by omega), fun g => absurd (by omega) g, fun _ => nx⟩⟩
      · rw [runE_e hno] at hr
        exact stop y m y0 y1 hF h3 hno hr
  exact skip (n - x).toNat x μ (by omega) hx.1 hx.2 (by rw [eF]; exact ⟨fun _ _ => rfl, fun _ _ => rfl⟩) ex.symm eS.symm
theorem ct_X11_advance : Ct mX11_advance 3 66 0 0 (nrmS S_X11_advance) := by
  refine ct_vm (own := RX11) (by decide +kernel) rfl ?_ ?_
  · intro as μ Q hS
    unfold S_X11_advance at hS
    split at hS
    · exact Nat.le_of_ble_eq_true rfl
    · exact hS.elim
  · intro as μ R hS
    unfold S_X11_advance at hS
    split at hS
    · exact body_X11_advance hS.1 hS.2
    · exact hS.elim
