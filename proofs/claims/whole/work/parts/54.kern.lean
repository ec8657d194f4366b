/-! choices of rows and of cellars, in their order -/
def Pk (k n : Int) (p : Int → Int) : Prop := (0 < k → 0 ≤ p 0 ∧ p 0 < n) ∧ (1 < k → p 0 < p 1 ∧ p 1 < n) ∧ (2 < k → p 1 < p 2 ∧ p 2 < n) ∧ (3 < k → p 2 < p 3 ∧ p 3 < n)
def cod (k : Int) (p : Int → Int) : Int := if k ≤ 0 then 0 else if k = 1 then p 0 else if k = 2 then 24 * p 0 + p 1 else if k = 3 then 576 * p 0 + 24 * p 1 + p 2 else 13824 * p 0 + 576 * p 1 + 24 * p 2 + p 3
theorem cod_0 {p : Int → Int} : cod 0 p = 0 := rfl
theorem cod_1 {p : Int → Int} : cod 1 p = p 0 := rfl
theorem cod_2 {p : Int → Int} : cod 2 p = 24 * p 0 + p 1 := rfl
theorem cod_3 {p : Int → Int} : cod 3 p = 576 * p 0 + 24 * p 1 + p 2 := rfl
theorem cod_4 {p : Int → Int} : cod 4 p = 13824 * p 0 + 576 * p 1 + 24 * p 2 + p 3 := rfl
theorem k_cases {k : Int} (k0 : 0 ≤ k) (k4 : k ≤ 4) : k = 0 ∨ k = 1 ∨ k = 2 ∨ k = 3 ∨ k = 4 := by omega
theorem Pk_at {k n i : Int} {p : Int → Int} (h : Pk k n p) (k4 : k ≤ 4) (i0 : 0 ≤ i) (i1 : i < k) : 0 ≤ p i ∧ p i < n ∧ i ≤ p i ∧ p i ≤ n - k + i := by
  unfold Pk at h
  rcases k_cases (show 0 ≤ k by omega) k4 with e | e | e | e | e <;> subst e
  · omega
  · have : i = 0 := by omega
    subst this; omega
  · rcases (by omega : i = 0 ∨ i = 1) with e | e <;> subst e <;> omega
  · rcases (by omega : i = 0 ∨ i = 1 ∨ i = 2) with e | e | e <;> subst e <;> omega
  · rcases (by omega : i = 0 ∨ i = 1 ∨ i = 2 ∨ i = 3) with e | e | e | e <;> subst e <;> omega
theorem Pk_congr {k n : Int} {p q : Int → Int} (h : Pk k n p) (e : ∀ i, 0 ≤ i → i < k → q i = p i) : Pk k n q := by
  unfold Pk at h ⊢
  refine ⟨fun c => ?_, fun c => ?_, fun c => ?_, fun c => ?_⟩
  · have e0 := e 0 (by omega) (by omega); omega
  · have e0 := e 0 (by omega) (by omega); have e1 := e 1 (by omega) (by omega); omega
  · have e1 := e 1 (by omega) (by omega); have e2 := e 2 (by omega) (by omega); omega
  · have e2 := e 2 (by omega) (by omega); have e3 := e 3 (by omega) (by omega); omega
theorem cod_congr {k : Int} {p q : Int → Int} (k4 : k ≤ 4) (e : ∀ i, 0 ≤ i → i < k → q i = p i) : cod k q = cod k p := by
  by_cases k0 : k ≤ 0
  · unfold cod; rw [if_pos k0, if_pos k0]
  · rcases k_cases (show 0 ≤ k by omega) k4 with h | h | h | h | h <;> subst h
    · omega
    · rw [cod_1, cod_1, e 0 (by omega) (by omega)]
    · rw [cod_2, cod_2, e 0 (by omega) (by omega), e 1 (by omega) (by omega)]
    · rw [cod_3, cod_3, e 0 (by omega) (by omega), e 1 (by omega) (by omega), e 2 (by omega) (by omega)]
    · rw [cod_4, cod_4, e 0 (by omega) (by omega), e 1 (by omega) (by omega), e 2 (by omega) (by omega), e 3 (by omega) (by omega)]
theorem cod_bd {k n : Int} {p : Int → Int} (h : Pk k n p) (n24 : n ≤ 24) (k0 : 0 ≤ k) (k4 : k ≤ 4) : 0 ≤ cod k p ∧ cod k p < 331776 := by
  unfold Pk at h
  rcases k_cases k0 k4 with e | e | e | e | e <;> subst e
  · rw [cod_0]; omega
  · rw [cod_1]; omega
  · rw [cod_2]; omega
  · rw [cod_3]; omega
  · rw [cod_4]; omega
theorem cod_inj {k n : Int} {p q : Int → Int} (hp : Pk k n p) (hq : Pk k n q) (n24 : n ≤ 24) (k4 : k ≤ 4) (h : cod k p = cod k q) : ∀ i, 0 ≤ i → i < k → p i = q i := by
  intro i i0 i1
  unfold Pk at hp hq
  rcases k_cases (show 0 ≤ k by omega) k4 with e | e | e | e | e <;> subst e
  · omega
  · rw [cod_1, cod_1] at h
    have : i = 0 := by omega
    subst this; exact h
  · rw [cod_2, cod_2] at h
    rcases (by omega : i = 0 ∨ i = 1) with e | e <;> subst e <;> omega
  · rw [cod_3, cod_3] at h
    have e0 : p 0 = q 0 := by omega
    have e1 : p 1 = q 1 := by omega
    have e2 : p 2 = q 2 := by omega
    rcases (by omega : i = 0 ∨ i = 1 ∨ i = 2) with e | e | e <;> subst e
    · exact e0
    · exact e1
    · exact e2
  · rw [cod_4, cod_4] at h
    have e0 : p 0 = q 0 := by omega
    have e1 : p 1 = q 1 := by omega
    have e2 : p 2 = q 2 := by omega
    have e3 : p 3 = q 3 := by omega
    rcases (by omega : i = 0 ∨ i = 1 ∨ i = 2 ∨ i = 3) with e | e | e | e <;> subst e
    · exact e0
    · exact e1
    · exact e2
    · exact e3
theorem pk_first {k n : Int} {p : Int → Int} (k0 : 0 ≤ k) (k4 : k ≤ 4) (kn : k ≤ n) (h : ∀ i, 0 ≤ i → i < k → p i = i) : Pk k n p ∧ ∀ q, Pk k n q → cod k p ≤ cod k q := by
  unfold Pk
  rcases k_cases k0 k4 with e | e | e | e | e <;> subst e
  · refine ⟨by omega, fun q _ => Int.le_refl _⟩
  · have h0 := h 0 (by omega) (by omega)
    refine ⟨by omega, fun q hq => ?_⟩
    rw [cod_1, cod_1]; omega
  · have h0 := h 0 (by omega) (by omega)
    have h1 := h 1 (by omega) (by omega)
    refine ⟨by omega, fun q hq => ?_⟩
    rw [cod_2, cod_2]; omega
  · have h0 := h 0 (by omega) (by omega)
    have h1 := h 1 (by omega) (by omega)
    have h2 := h 2 (by omega) (by omega)
    refine ⟨by omega, fun q hq => ?_⟩
    rw [cod_3, cod_3]; omega
  · have h0 := h 0 (by omega) (by omega)
    have h1 := h 1 (by omega) (by omega)
    have h2 := h 2 (by omega) (by omega)
    have h3 := h 3 (by omega) (by omega)
    refine ⟨by omega, fun q hq => ?_⟩
    rw [cod_4, cod_4]; omega
/-- the next one -/
def Nx (k n : Int) (p p' : Int → Int) : Prop := ∃ i, (0 ≤ i ∧ i < k) ∧ p i < n - k + i ∧ (∀ j, i < j → j < k → n - k + j ≤ p j) ∧ (∀ j, 0 ≤ j → j < i → p' j = p j) ∧ ∀ j, i ≤ j → j < k → p' j = p i + 1 + (j - i)
theorem nx_ok {k n : Int} {p p' : Int → Int} (hp : Pk k n p) (n24 : n ≤ 24) (k4 : k ≤ 4) (h : Nx k n p p') : Pk k n p' ∧ cod k p < cod k p' ∧ ∀ q, Pk k n q → cod k p < cod k q → cod k p' ≤ cod k q := by
  obtain ⟨i, hi, hl, ha, hb, hc⟩ := h
  unfold Pk at hp ⊢
  rcases k_cases (show 0 ≤ k by omega) k4 with e | e | e | e | e <;> subst e
  · omega
  · have : i = 0 := by omega
    subst this
    have c0 := hc 0 (by omega) (by omega)
    rw [cod_1, cod_1]
    refine ⟨by omega, by omega, fun q hq => ?_⟩
    rw [cod_1]; omega
  · rw [cod_2, cod_2]
    rcases (by omega : i = 0 ∨ i = 1) with e | e <;> subst e
    · have a1 := ha 1 (by omega) (by omega)
      have c0 := hc 0 (by omega) (by omega)
      have c1 := hc 1 (by omega) (by omega)
      refine ⟨by omega, by omega, fun q hq => ?_⟩
      rw [cod_2]; omega
    · have b0 := hb 0 (by omega) (by omega)
      have c1 := hc 1 (by omega) (by omega)
      refine ⟨by omega, by omega, fun q hq => ?_⟩
      rw [cod_2]; omega
  · rw [cod_3, cod_3]
    rcases (by omega : i = 0 ∨ i = 1 ∨ i = 2) with e | e | e <;> subst e
    · have a1 := ha 1 (by omega) (by omega)
      have a2 := ha 2 (by omega) (by omega)
      have c0 := hc 0 (by omega) (by omega)
      have c1 := hc 1 (by omega) (by omega)
      have c2 := hc 2 (by omega) (by omega)
      refine ⟨by omega, by omega, fun q hq => ?_⟩
      rw [cod_3]; omega
    · have a2 := ha 2 (by omega) (by omega)
      have b0 := hb 0 (by omega) (by omega)
      have c1 := hc 1 (by omega) (by omega)
      have c2 := hc 2 (by omega) (by omega)
      refine ⟨by omega, by omega, fun q hq => ?_⟩
      rw [cod_3]; omega
    · have b0 := hb 0 (by omega) (by omega)
      have b1 := hb 1 (by omega) (by omega)
      have c2 := hc 2 (by omega) (by omega)
      refine ⟨by omega, by omega, fun q hq => ?_⟩
      rw [cod_3]; omega
  · rw [cod_4, cod_4]
    rcases (by omega : i = 0 ∨ i = 1 ∨ i = 2 ∨ i = 3) with e | e | e | e <;> subst e
    · have a1 := ha 1 (by omega) (by omega)
      have a2 := ha 2 (by omega) (by omega)
      have a3 := ha 3 (by omega) (by omega)
      have c0 := hc 0 (by omega) (by omega)
      have c1 := hc 1 (by omega) (by omega)
      have c2 := hc 2 (by omega) (by omega)
      have c3 := hc 3 (by omega) (by omega)
      refine ⟨by omega, by omega, fun q hq => ?_⟩
      rw [cod_4]; omega
    · have a2 := ha 2 (by omega) (by omega)
      have a3 := ha 3 (by omega) (by omega)
      have b0 := hb 0 (by omega) (by omega)
      have c1 := hc 1 (by omega) (by omega)
      have c2 := hc 2 (by omega) (by omega)
      have c3 := hc 3 (by omega) (by omega)
      refine ⟨by omega, by omega, fun q hq => ?_⟩
      rw [cod_4]; omega
    · have a3 := ha 3 (by omega) (by omega)
      have b0 := hb 0 (by omega) (by omega)
      have b1 := hb 1 (by omega) (by omega)
      have c2 := hc 2 (by omega) (by omega)
      have c3 := hc 3 (by omega) (by omega)
      refine ⟨by omega, by omega, fun q hq => ?_⟩
      rw [cod_4]; omega
    · have b0 := hb 0 (by omega) (by omega)
      have b1 := hb 1 (by omega) (by omega)
      have b2 := hb 2 (by omega) (by omega)
      have c3 := hc 3 (by omega) (by omega)
      refine ⟨by omega, by omega, fun q hq => ?_⟩
      rw [cod_4]; omega
theorem nx_end {k n : Int} {p : Int → Int} (hp : Pk k n p) (k0 : 0 ≤ k) (k4 : k ≤ 4) (h : ∀ j, 0 ≤ j → j < k → n - k + j ≤ p j) : ∀ q, Pk k n q → cod k q ≤ cod k p := by
  intro q hq
  unfold Pk at hp hq
  rcases k_cases k0 k4 with e | e | e | e | e <;> subst e
  · exact Int.le_refl _
  · have h0 := h 0 (by omega) (by omega)
    rw [cod_1, cod_1]; omega
  · have h0 := h 0 (by omega) (by omega)
    have h1 := h 1 (by omega) (by omega)
    rw [cod_2, cod_2]; omega
  · have h0 := h 0 (by omega) (by omega)
    have h1 := h 1 (by omega) (by omega)
    have h2 := h 2 (by omega) (by omega)
    rw [cod_3, cod_3]; omega
  · have h0 := h 0 (by omega) (by omega)
    have h1 := h 1 (by omega) (by omega)
    have h2 := h 2 (by omega) (by omega)
    have h3 := h 3 (by omega) (by omega)
    rw [cod_4, cod_4]; omega
/-! the place of a choice -/
def chV (i n : Int) : Int := if i = 1 then n else if i = 2 then n * (n - 1) / 2 else n * (n - 1) * (n - 2) / 6
theorem ch_tab : ∀ a : Nat, a < 24 → (0 ≤ chV 2 a ∧ chV 2 a ≤ 253 ∧ 0 ≤ chV 3 a ∧ chV 3 a ≤ 1771) ∧ ∀ b : Nat, b < 25 → a < b → chV 2 a + a ≤ chV 2 b ∧ chV 3 a + chV 2 a ≤ chV 3 b := by decide +kernel
theorem ch_bd {a : Int} (a0 : 0 ≤ a) (a1 : a < 24) : 0 ≤ chV 2 a ∧ chV 2 a ≤ 253 ∧ 0 ≤ chV 3 a ∧ chV 3 a ≤ 1771 := by
  have h := (ch_tab a.toNat (by omega)).1
  rw [Int.toNat_of_nonneg a0] at h
  exact h
theorem ch_lt {a b : Int} (a0 : 0 ≤ a) (a1 : a < b) (b1 : b ≤ 24) : chV 2 a + a ≤ chV 2 b ∧ chV 3 a + chV 2 a ≤ chV 3 b := by
  have h := (ch_tab a.toNat (by omega)).2 b.toNat (by omega) (by omega)
  rw [Int.toNat_of_nonneg a0, Int.toNat_of_nonneg (show 0 ≤ b by omega)] at h
  exact h
def rkV (k : Int) (p : Int → Int) : Int := sm (fun i => chV (i + 1) (p i)) k
theorem rk_0 {p : Int → Int} : rkV 0 p = 0 := rfl
theorem rk_s {p : Int → Int} {k : Int} (h : 0 ≤ k) : rkV (k + 1) p = rkV k p + chV (k + 1) (p k) := sm_s h
theorem rk_1 {p : Int → Int} : rkV 1 p = p 0 := by
  have := rk_s (p := p) (Int.le_refl 0)
  rw [rk_0] at this
  have e : chV (0 + 1) (p 0) = p 0 := rfl
  rw [e] at this
  have e2 : (0 : Int) + 1 = 1 := rfl
  rw [e2] at this
  omega
theorem rk_2 {p : Int → Int} : rkV 2 p = p 0 + chV 2 (p 1) := by
  have := rk_s (p := p) (show (0 : Int) ≤ 1 by omega)
  rw [rk_1] at this
  exact this
theorem rk_3 {p : Int → Int} : rkV 3 p = p 0 + chV 2 (p 1) + chV 3 (p 2) := by
  have := rk_s (p := p) (show (0 : Int) ≤ 2 by omega)
  rw [rk_2] at this
  exact this
theorem rk_congr {k : Int} {p q : Int → Int} (e : ∀ i, 0 ≤ i → i < k → q i = p i) : rkV k q = rkV k p := sm_congr fun i i0 i1 => by rw [e i i0 i1]
theorem rk_bd {k n : Int} {p : Int → Int} (hp : Pk k n p) (n24 : n ≤ 24) (k0 : 0 ≤ k) (k3 : k ≤ 3) : 0 ≤ rkV k p ∧ rkV k p < 2024 := by
  unfold Pk at hp
  rcases (by omega : k = 0 ∨ k = 1 ∨ k = 2 ∨ k = 3) with e | e | e | e <;> subst e
  · rw [rk_0]; omega
  · rw [rk_1]; omega
  · rw [rk_2]
    have := ch_bd (a := p 1) (by omega) (by omega)
    have := ch_lt (a := p 1) (b := 24) (by omega) (by omega) (by omega)
    have e : chV 2 24 = 276 := rfl
    omega
  · rw [rk_3]
    have := ch_bd (a := p 1) (by omega) (by omega)
    have := ch_bd (a := p 2) (by omega) (by omega)
    have := ch_lt (a := p 1) (b := p 2) (by omega) (by omega) (by omega)
    have := ch_lt (a := p 2) (b := 24) (by omega) (by omega) (by omega)
    have e : chV 3 24 = 2024 := rfl
    omega
theorem rk_inj {k n : Int} {p q : Int → Int} (hp : Pk k n p) (hq : Pk k n q) (n24 : n ≤ 24) (k3 : k ≤ 3) (h : rkV k p = rkV k q) : ∀ i, 0 ≤ i → i < k → p i = q i := by
  intro i i0 i1
  unfold Pk at hp hq
  rcases (by omega : k = 1 ∨ k = 2 ∨ k = 3) with e | e | e <;> subst e
  · rw [rk_1, rk_1] at h
    have : i = 0 := by omega
    subst this; exact h
  · rw [rk_2, rk_2] at h
    have two : p 1 = q 1 := by
      rcases Int.lt_trichotomy (p 1) (q 1) with c | c | c
      · have := ch_lt (a := p 1) (b := q 1) (by omega) c (by omega)
        omega
      · exact c
      · have := ch_lt (a := q 1) (b := p 1) (by omega) c (by omega)
        omega
    rw [two] at h
    rcases (by omega : i = 0 ∨ i = 1) with e | e <;> subst e <;> omega
  · rw [rk_3, rk_3] at h
    have p1 := ch_lt (a := p 1) (b := p 2) (by omega) (by omega) (by omega)
    have q1 := ch_lt (a := q 1) (b := q 2) (by omega) (by omega) (by omega)
    have pb := ch_bd (a := p 1) (by omega) (by omega)
    have qb := ch_bd (a := q 1) (by omega) (by omega)
    have three : p 2 = q 2 := by
      rcases Int.lt_trichotomy (p 2) (q 2) with c | c | c
      · have := ch_lt (a := p 2) (b := q 2) (by omega) c (by omega)
        omega
      · exact c
      · have := ch_lt (a := q 2) (b := p 2) (by omega) c (by omega)
        omega
    rw [three] at h
    have two : p 1 = q 1 := by
      rcases Int.lt_trichotomy (p 1) (q 1) with c | c | c
      · have := ch_lt (a := p 1) (b := q 1) (by omega) c (by omega)
        omega
      · exact c
      · have := ch_lt (a := q 1) (b := p 1) (by omega) c (by omega)
        omega
    rw [two] at h
    rcases (by omega : i = 0 ∨ i = 1 ∨ i = 2) with e | e | e <;> subst e <;> omega
/-! the numbers of a kernel -/
def ski (i l : Int) : Int := if l < i then l else l + 1
theorem ski_lt {i l : Int} (h : l < i) : ski i l = l := if_pos h
theorem ski_ge {i l : Int} (h : i ≤ l) : ski i l = l + 1 := if_neg (by omega)
def onV (F : Int → Int → Int) (k : Int) (cp q : Int → Int) : Int := (if k % 2 = 1 then 1 else -1) * detV (fun x => F (cp (x / 3 + 1)) (q (x % 3)) - F (cp 0) (q (x % 3))) (k - 1)
def kerR (F : Int → Int → Int) (k : Int) (cp rp : Int → Int) (j : Int) : Int := (if (k - 1 - j) % 2 = 1 then -1 else 1) * onV F k cp (fun l => rp (ski j l))
def kerC (F : Int → Int → Int) (k : Int) (cp rp : Int → Int) (i : Int) : Int := (if i % 2 = 1 then -1 else 1) * detV (fun x => F (cp (ski i (x / 3))) (rp (x % 3 + 1)) - F (cp (ski i (x / 3))) (rp 0)) (k - 1)
def kerS (F : Int → Int → Int) (k : Int) (cp rp : Int → Int) : Int := sm (kerR F k cp rp) k
def kerD (F : Int → Int → Int) (k : Int) (cp rp : Int → Int) : Int := sm (fun j => kerR F k cp rp j * F (cp 0) (rp j)) k
def sgn (s : Int) : Int := if s < 0 then -1 else 1
def Good (F : Int → Int → Int) (n N k : Int) (cp rp : Int → Int) : Prop := kerS F k cp rp ≠ 0 ∧ (∀ j, 0 ≤ j → j < k → 0 ≤ sgn (kerS F k cp rp) * kerR F k cp rp j) ∧ (∀ i, 0 ≤ i → i < k → 0 ≤ sgn (kerS F k cp rp) * kerC F k cp rp i) ∧
  (∀ c, 0 ≤ c → c < n → sm (fun j => sgn (kerS F k cp rp) * kerR F k cp rp j * F c (rp j)) k ≤ sgn (kerS F k cp rp) * kerD F k cp rp) ∧ ∀ r, 0 ≤ r → r < N → sgn (kerS F k cp rp) * kerD F k cp rp ≤ sm (fun i => sgn (kerS F k cp rp) * kerC F k cp rp i * F (cp i) r) k
theorem sm_1 {f : Int → Int} : sm f 1 = f 0 := by
  have : sm f (0 + 1) = sm f 0 + f 0 := sm_s (Int.le_refl 0)
  rw [sm_0] at this
  have e : (0 : Int) + 1 = 1 := rfl
  rw [e] at this
  omega
theorem sm_2 {f : Int → Int} : sm f 2 = f 0 + f 1 := by
  have : sm f (1 + 1) = sm f 1 + f 1 := sm_s (by omega)
  rw [sm_1] at this
  exact this
theorem sm_3 {f : Int → Int} : sm f 3 = f 0 + f 1 + f 2 := by
  have : sm f (2 + 1) = sm f 2 + f 2 := sm_s (by omega)
  rw [sm_2] at this
  exact this
theorem sm_4 {f : Int → Int} : sm f 4 = f 0 + f 1 + f 2 + f 3 := by
  have : sm f (3 + 1) = sm f 3 + f 3 := sm_s (by omega)
  rw [sm_3] at this
  exact this
