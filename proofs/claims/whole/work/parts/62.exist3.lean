/-! the best four columns -/
def CL (F : Int → Int → Int) (n N j : Int) : Int → Int := fun i => if j < N then (if i < n then F i j else 0) else (if i = j - N then 1 else 0)
def csC (N j : Int) : Int := if j < N then 1 else 0
def Bv : Int → Int := fun i => 10000000000000000000000000000000000000000 + (if i = 0 then 1000000000000000000000000000000 else if i = 1 then 100000000000000000000 else if i = 2 then 10000000000 else 1)
theorem per1 {S r : Int} (h : -29999999999999999999999999999999999999999 ≤ 3 * r ∧ 3 * r ≤ 29999999999999999999999999999999999999999) : (10000000000000000000000000000000000000000 * S + r = 0 → S = 0 ∧ r = 0) ∧ (0 ≤ 10000000000000000000000000000000000000000 * S + r → 0 ≤ S) := by
  constructor
  · intro q
    have : S = 0 := by omega
    subst this
    exact ⟨rfl, by omega⟩
  · intro q; omega
theorem per2 {S r : Int} (h : -900000000000000000000000000000 ≤ r ∧ r ≤ 900000000000000000000000000000) : 1000000000000000000000000000000 * S + r = 0 → S = 0 ∧ r = 0 := by
  intro q
  have : S = 0 := by omega
  subst this
  exact ⟨rfl, by omega⟩
theorem per3 {S r : Int} (h : -90000000000000000000 ≤ r ∧ r ≤ 90000000000000000000) : 100000000000000000000 * S + r = 0 → S = 0 ∧ r = 0 := by
  intro q
  have : S = 0 := by omega
  subst this
  exact ⟨rfl, by omega⟩
theorem per4 {S r : Int} (h : -9000000000 ≤ r ∧ r ≤ 9000000000) : 10000000000 * S + r = 0 → S = 0 ∧ r = 0 := by
  intro q
  have : S = 0 := by omega
  subst this
  exact ⟨rfl, by omega⟩
theorem bv0 : Bv 0 = 10000000000000000000000000000000000000000 + 1000000000000000000000000000000 := by decide +kernel
theorem bv1 : Bv 1 = 10000000000000000000000000000000000000000 + 100000000000000000000 := by decide +kernel
theorem bv2 : Bv 2 = 10000000000000000000000000000000000000000 + 10000000000 := by decide +kernel
theorem bv3 : Bv 3 = 10000000000000000000000000000000000000000 + 1 := by decide +kernel
theorem bve (e0 e1 e2 e3 : Int) : Bv 0 * e0 + Bv 1 * e1 + Bv 2 * e2 + Bv 3 * e3 = 10000000000000000000000000000000000000000 * (e0 + e1 + e2 + e3) + (1000000000000000000000000000000 * e0 + (100000000000000000000 * e1 + (10000000000 * e2 + e3))) := by
  rw [bv0, bv1, bv2, bv3, Int.add_mul, Int.add_mul, Int.add_mul, Int.add_mul, Int.mul_add, Int.mul_add, Int.mul_add]
  generalize 10000000000000000000000000000000000000000 * e0 = a0
  generalize 10000000000000000000000000000000000000000 * e1 = a1
  generalize 10000000000000000000000000000000000000000 * e2 = a2
  generalize 10000000000000000000000000000000000000000 * e3 = a3
  generalize 1000000000000000000000000000000 * e0 = d0
  generalize 100000000000000000000 * e1 = d1
  generalize 10000000000 * e2 = d2
  omega
theorem pb {K B C e r : Int} (hK : 0 ≤ K) (he : -B ≤ e ∧ e ≤ B) (hr : -C ≤ r ∧ r ≤ C) : -(K * B + C) ≤ K * e + r ∧ K * e + r ≤ K * B + C := by
  have h1 := Int.mul_le_mul_of_nonneg_left he.2 hK
  have h2 := Int.mul_le_mul_of_nonneg_left he.1 hK
  rw [Int.mul_neg] at h2
  omega
theorem le_tr2 {a b x : Int} (h : -b ≤ x ∧ x ≤ b) (hab : b ≤ a) : -a ≤ x ∧ x ≤ a := by omega
theorem per {e0 e1 e2 e3 : Int} (h0 : -1053696000 ≤ e0 ∧ e0 ≤ 1053696000) (h1 : -1053696000 ≤ e1 ∧ e1 ≤ 1053696000) (h2 : -1053696000 ≤ e2 ∧ e2 ≤ 1053696000) (h3 : -1053696000 ≤ e3 ∧ e3 ≤ 1053696000) : (Bv 0 * e0 + Bv 1 * e1 + Bv 2 * e2 + Bv 3 * e3 = 0 → e0 = 0 ∧ e1 = 0 ∧ e2 = 0 ∧ e3 = 0) ∧ (0 ≤ Bv 0 * e0 + Bv 1 * e1 + Bv 2 * e2 + Bv 3 * e3 → 0 ≤ e0 + e1 + e2 + e3) := by
  rw [bve]
  have g2 := pb (K := 10000000000) (by decide +kernel) h2 h3
  have g1 := pb (K := 100000000000000000000) (by decide +kernel) h1 g2
  have g0 := pb (K := 1000000000000000000000000000000) (by decide +kernel) h0 g1
  have p1 := per1 (S := e0 + e1 + e2 + e3) (r := 1000000000000000000000000000000 * e0 + (100000000000000000000 * e1 + (10000000000 * e2 + e3))) ⟨Int.le_trans (b := 3 * -(1000000000000000000000000000000 * 1053696000 + (100000000000000000000 * 1053696000 + (10000000000 * 1053696000 + 1053696000)))) (by decide +kernel) (Int.mul_le_mul_of_nonneg_left g0.1 (by decide)), Int.le_trans (b := 3 * (1000000000000000000000000000000 * 1053696000 + (100000000000000000000 * 1053696000 + (10000000000 * 1053696000 + 1053696000)))) (Int.mul_le_mul_of_nonneg_left g0.2 (by decide)) (by decide +kernel)⟩
  refine ⟨fun q => ?_, p1.2⟩
  have q1 := (p1.1 q).2
  have q2 := per2 (le_tr2 g1 (by decide +kernel)) q1
  have q3 := per3 (le_tr2 g2 (by decide +kernel)) q2.2
  have q4 := per4 (le_tr2 h3 (by decide +kernel)) q3.2
  exact ⟨q2.1, q3.1, q4.1, q4.2⟩
theorem m3_bd {a b c d e f g h i : Int} (ha : -560 ≤ a ∧ a ≤ 560) (hb : -560 ≤ b ∧ b ≤ 560) (hc : -560 ≤ c ∧ c ≤ 560) (hd : -560 ≤ d ∧ d ≤ 560) (he : -560 ≤ e ∧ e ≤ 560) (hf : -560 ≤ f ∧ f ≤ 560) (hg : -560 ≤ g ∧ g ≤ 560) (hh : -560 ≤ h ∧ h ≤ 560) (hi : -560 ≤ i ∧ i ≤ 560) : -1053696000 ≤ a * (e * i - f * h) - b * (d * i - f * g) + c * (d * h - e * g) ∧ a * (e * i - f * h) - b * (d * i - f * g) + c * (d * h - e * g) ≤ 1053696000 := by
  have q1 := am he.1 he.2 hi.1 hi.2
  have q2 := am hf.1 hf.2 hh.1 hh.2
  have q3 := am hd.1 hd.2 hi.1 hi.2
  have q4 := am hf.1 hf.2 hg.1 hg.2
  have q5 := am hd.1 hd.2 hh.1 hh.2
  have q6 := am he.1 he.2 hg.1 hg.2
  have r1 := am (b := e * i - f * h) (B := 627200) ha.1 ha.2 (by omega) (by omega)
  have r2 := am (b := d * i - f * g) (B := 627200) hb.1 hb.2 (by omega) (by omega)
  have r3 := am (b := d * h - e * g) (B := 627200) hc.1 hc.2 (by omega) (by omega)
  omega
def Col (a : Int → Int) : Prop := ∀ i : Int, 0 ≤ i → i < 4 → 0 ≤ a i ∧ a i ≤ 560
theorem un_tab : unC 0 0 = 1 ∧ unC 0 1 = 0 ∧ unC 0 2 = 0 ∧ unC 0 3 = 0 ∧ unC 1 0 = 0 ∧ unC 1 1 = 1 ∧ unC 1 2 = 0 ∧ unC 1 3 = 0 ∧ unC 2 0 = 0 ∧ unC 2 1 = 0 ∧ unC 2 2 = 1 ∧ unC 2 3 = 0 ∧ unC 3 0 = 0 ∧ unC 3 1 = 0 ∧ unC 3 2 = 0 ∧ unC 3 3 = 1 := by decide +kernel
theorem un_bd {b c d : Int → Int} (hb : Col b) (hc : Col c) (hd : Col d) : (-1053696000 ≤ D4 (unC 0) b c d ∧ D4 (unC 0) b c d ≤ 1053696000) ∧ (-1053696000 ≤ D4 (unC 1) b c d ∧ D4 (unC 1) b c d ≤ 1053696000) ∧ (-1053696000 ≤ D4 (unC 2) b c d ∧ D4 (unC 2) b c d ≤ 1053696000) ∧ (-1053696000 ≤ D4 (unC 3) b c d ∧ D4 (unC 3) b c d ≤ 1053696000) := by
  obtain ⟨u00, u01, u02, u03, u10, u11, u12, u13, u20, u21, u22, u23, u30, u31, u32, u33⟩ := un_tab
  have B : ∀ {x : Int → Int} (i : Int), Col x → 0 ≤ i → i < 4 → -560 ≤ x i ∧ x i ≤ 560 := fun i hx i0 i1 => by have := hx i i0 i1; omega
  have b0 := B 0 hb (by omega) (by omega)
  have b1 := B 1 hb (by omega) (by omega)
  have b2 := B 2 hb (by omega) (by omega)
  have b3 := B 3 hb (by omega) (by omega)
  have c0 := B 0 hc (by omega) (by omega)
  have c1 := B 1 hc (by omega) (by omega)
  have c2 := B 2 hc (by omega) (by omega)
  have c3 := B 3 hc (by omega) (by omega)
  have d0 := B 0 hd (by omega) (by omega)
  have d1 := B 1 hd (by omega) (by omega)
  have d2 := B 2 hd (by omega) (by omega)
  have d3 := B 3 hd (by omega) (by omega)
  have m0 := m3_bd b1 b2 b3 c1 c2 c3 d1 d2 d3
  have m1 := m3_bd b0 b2 b3 c0 c2 c3 d0 d2 d3
  have m2 := m3_bd b0 b1 b3 c0 c1 c3 d0 d1 d3
  have m3 := m3_bd b0 b1 b2 c0 c1 c2 d0 d1 d2
  unfold D4
  rw [u00, u01, u02, u03, u10, u11, u12, u13, u20, u21, u22, u23, u30, u31, u32, u33]
  simp only [Int.one_mul, Int.zero_mul]
  refine ⟨by omega, by omega, by omega, by omega⟩
theorem nondeg {x b c d : Int → Int} (hb : Col b) (hc : Col c) (hd : Col d) (h : D4 x b c d ≠ 0) : D4 Bv b c d ≠ 0 := by
  intro q
  rw [D4_lin Bv] at q
  obtain ⟨u0, u1, u2, u3⟩ := un_bd hb hc hd
  have := (per u0 u1 u2 u3).1 q
  rw [D4_lin x, this.1, this.2.1, this.2.2.1, this.2.2.2] at h
  simp only [Int.mul_zero, Int.add_zero] at h
  exact h rfl
def one4 : Int → Int := fun _ => 1
theorem sg_Bv {b c d : Int → Int} {s : Int} (hs : s = 1 ∨ s = -1) (hb : Col b) (hc : Col c) (hd : Col d) (h : 0 < s * D4 Bv b c d) : 0 ≤ s * D4 one4 b c d := by
  rw [D4_lin Bv] at h
  rw [D4_lin one4]
  obtain ⟨u0, u1, u2, u3⟩ := un_bd hb hc hd
  have e : ∀ i, one4 i = 1 := fun _ => rfl
  rw [e, e, e, e]
  simp only [Int.one_mul]
  rcases hs with q | q <;> subst q
  · rw [Int.one_mul] at h ⊢
    exact (per u0 u1 u2 u3).2 (by omega)
  · rw [Int.neg_one_mul] at h ⊢
    have := (per (e0 := -D4 (unC 0) b c d) (e1 := -D4 (unC 1) b c d) (e2 := -D4 (unC 2) b c d) (e3 := -D4 (unC 3) b c d) (by omega) (by omega) (by omega) (by omega)).2 (by
      simp only [Int.mul_neg]
      omega)
    omega
