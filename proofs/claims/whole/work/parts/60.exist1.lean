/-! there is a kernel always: four columns, what they make -/
def D4 (a b c d : Int → Int) : Int := a 0 * (b 1 * (c 2 * d 3 - c 3 * d 2) - b 2 * (c 1 * d 3 - c 3 * d 1) + b 3 * (c 1 * d 2 - c 2 * d 1)) - a 1 * (b 0 * (c 2 * d 3 - c 3 * d 2) - b 2 * (c 0 * d 3 - c 3 * d 0) + b 3 * (c 0 * d 2 - c 2 * d 0)) + a 2 * (b 0 * (c 1 * d 3 - c 3 * d 1) - b 1 * (c 0 * d 3 - c 3 * d 0) + b 3 * (c 0 * d 1 - c 1 * d 0)) - a 3 * (b 0 * (c 1 * d 2 - c 2 * d 1) - b 1 * (c 0 * d 2 - c 2 * d 0) + b 2 * (c 0 * d 1 - c 1 * d 0))
theorem D4_01 (a b c d : Int → Int) : D4 b a c d = -D4 a b c d := by unfold D4; grind
theorem D4_12 (a b c d : Int → Int) : D4 a c b d = -D4 a b c d := by unfold D4; grind
theorem D4_23 (a b c d : Int → Int) : D4 a b d c = -D4 a b c d := by unfold D4; grind
theorem D4_02 (a b c d : Int → Int) : D4 c b a d = -D4 a b c d := by unfold D4; grind
theorem D4_03 (a b c d : Int → Int) : D4 d b c a = -D4 a b c d := by unfold D4; grind
theorem D4_e01 (a c d : Int → Int) : D4 a a c d = 0 := by unfold D4; grind
theorem D4_e12 (a b d : Int → Int) : D4 a b b d = 0 := by unfold D4; grind
theorem D4_e23 (a b c : Int → Int) : D4 a b c c = 0 := by unfold D4; grind
theorem D4_cr0 (a b c d x : Int → Int) : D4 a b c d * x 0 = D4 x b c d * a 0 + D4 a x c d * b 0 + D4 a b x d * c 0 + D4 a b c x * d 0 := by unfold D4; grind
theorem D4_cr1 (a b c d x : Int → Int) : D4 a b c d * x 1 = D4 x b c d * a 1 + D4 a x c d * b 1 + D4 a b x d * c 1 + D4 a b c x * d 1 := by unfold D4; grind
theorem D4_cr2 (a b c d x : Int → Int) : D4 a b c d * x 2 = D4 x b c d * a 2 + D4 a x c d * b 2 + D4 a b x d * c 2 + D4 a b c x * d 2 := by unfold D4; grind
theorem D4_cr3 (a b c d x : Int → Int) : D4 a b c d * x 3 = D4 x b c d * a 3 + D4 a x c d * b 3 + D4 a b x d * c 3 + D4 a b c x * d 3 := by unfold D4; grind
def unC (i : Int) : Int → Int := fun j => if j = i then 1 else 0
theorem D4_lin (a b c d : Int → Int) : D4 a b c d = a 0 * D4 (unC 0) b c d + a 1 * D4 (unC 1) b c d + a 2 * D4 (unC 2) b c d + a 3 * D4 (unC 3) b c d := by
  unfold D4 unC
  simp only [show ((0 : Int) = 1) = False from by decide, show ((0 : Int) = 2) = False from by decide, show ((0 : Int) = 3) = False from by decide, show ((1 : Int) = 0) = False from by decide, show ((1 : Int) = 2) = False from by decide, show ((1 : Int) = 3) = False from by decide, show ((2 : Int) = 0) = False from by decide, show ((2 : Int) = 1) = False from by decide, show ((2 : Int) = 3) = False from by decide, show ((3 : Int) = 0) = False from by decide, show ((3 : Int) = 1) = False from by decide, show ((3 : Int) = 2) = False from by decide, if_true, if_false]
  grind
/-- linear in the first -/
theorem D4_comb (a b c d x u v w : Int → Int) (k A B C E : Int) (h0 : k * x 0 = A * a 0 + B * b 0 + C * c 0 + E * d 0) (h1 : k * x 1 = A * a 1 + B * b 1 + C * c 1 + E * d 1) (h2 : k * x 2 = A * a 2 + B * b 2 + C * c 2 + E * d 2) (h3 : k * x 3 = A * a 3 + B * b 3 + C * c 3 + E * d 3) : k * D4 x u v w = A * D4 a u v w + B * D4 b u v w + C * D4 c u v w + E * D4 d u v w := by
  rw [D4_lin x, D4_lin a, D4_lin b, D4_lin c, D4_lin d]
  generalize D4 (unC 0) u v w = p0
  generalize D4 (unC 1) u v w = p1
  generalize D4 (unC 2) u v w = p2
  generalize D4 (unC 3) u v w = p3
  grind
theorem D4_pl1 (a b c d x y : Int → Int) : D4 x y c d * D4 a b c d = D4 x b c d * D4 a y c d - D4 y b c d * D4 a x c d := by
  have h := D4_comb a b c d x y c d _ _ _ _ _ (D4_cr0 a b c d x) (D4_cr1 a b c d x) (D4_cr2 a b c d x) (D4_cr3 a b c d x)
  have e1 : D4 c y c d = 0 := by rw [D4_01 y c, D4_e12]; rfl
  have e2 : D4 d y c d = 0 := by rw [D4_01 y d, D4_12 y c d d, D4_e23]; rfl
  have e3 := D4_01 y b c d
  rw [e1, e2, e3] at h
  grind
theorem D4_pl2 (a b c d x y : Int → Int) : D4 x b y d * D4 a b c d = D4 x b c d * D4 a b y d - D4 y b c d * D4 a b x d := by
  have h := D4_pl1 a c b d x y
  rw [D4_12 x b y d, D4_12 a b c d, D4_12 x b c d, D4_12 a b y d, D4_12 y b c d, D4_12 a b x d] at h
  grind
theorem D4_pl3 (a b c d x y : Int → Int) : D4 x b c y * D4 a b c d = D4 x b c d * D4 a b c y - D4 y b c d * D4 a b c x := by
  have h := D4_pl2 a b d c x y
  rw [D4_23 x b c y, D4_23 a b c d, D4_23 x b c d, D4_23 a b c y, D4_23 y b c d, D4_23 a b c x] at h
  grind
/-! fractions -/
theorem fr_tr {a b c d e f : Int} (hb : 0 < b) (hd : 0 < d) (hf : 0 < f) (h1 : a * d ≤ c * b) (h2 : c * f ≤ e * d) : a * f ≤ e * b := by
  have k1 := Int.mul_le_mul_of_nonneg_right h1 (show 0 ≤ f by omega)
  have k2 := Int.mul_le_mul_of_nonneg_right h2 (show 0 ≤ b by omega)
  have k3 : (a * f) * d ≤ (e * b) * d := by
    have e1 : (a * f) * d = a * d * f := by rw [Int.mul_assoc, Int.mul_comm f d, ← Int.mul_assoc]
    have e2 : (e * b) * d = e * d * b := by rw [Int.mul_assoc, Int.mul_comm b d, ← Int.mul_assoc]
    have e3 : c * b * f = c * f * b := by rw [Int.mul_assoc, Int.mul_comm b f, ← Int.mul_assoc]
    rw [e1, e2]
    omega
  exact Int.le_of_mul_le_mul_right k3 hd
theorem fr_max {P : Int → Prop} {num den : Int → Int} (hden : ∀ i, P i → 0 < den i) : ∀ M : Nat, (∃ i, (0 ≤ i ∧ i < (M : Int)) ∧ P i) → ∃ i, (0 ≤ i ∧ i < (M : Int)) ∧ P i ∧ ∀ j, 0 ≤ j → j < (M : Int) → P j → num j * den i ≤ num i * den j
  | 0, ⟨i, hi, _⟩ => by omega
  | M + 1, hex => by
    have e : ((M + 1 : Nat) : Int) = (M : Int) + 1 := by omega
    by_cases hM : P M
    · by_cases hlow : ∃ i, (0 ≤ i ∧ i < (M : Int)) ∧ P i
      · obtain ⟨i, hi, hP, hmax⟩ := fr_max (num := num) hden M hlow
        by_cases hc : num M * den i ≤ num i * den M
        · refine ⟨i, by omega, hP, fun j j0 j1 hj => ?_⟩
          by_cases ej : j = M
          · rw [ej]; exact hc
          · exact hmax j j0 (by omega) hj
        · refine ⟨M, by omega, hM, fun j j0 j1 hj => ?_⟩
          by_cases ej : j = M
          · rw [ej]; exact Int.le_refl _
          · exact fr_tr (hden j hj) (hden i hP) (hden M hM) (hmax j j0 (by omega) hj) (by omega)
      · refine ⟨M, by omega, hM, fun j j0 j1 hj => ?_⟩
        by_cases ej : j = M
        · rw [ej]; exact Int.le_refl _
        · exact absurd ⟨j, ⟨j0, by omega⟩, hj⟩ hlow
    · obtain ⟨i, hi, hP⟩ := hex
      have hiM : i ≠ M := fun q => hM (q ▸ hP)
      obtain ⟨i, hi, hP, hmax⟩ := fr_max (num := num) hden M ⟨i, by omega, hP⟩
      refine ⟨i, by omega, hP, fun j j0 j1 hj => ?_⟩
      by_cases ej : j = M
      · rw [ej] at hj; exact absurd hj hM
      · exact hmax j j0 (by omega) hj
/-! four columns that stand -/
theorem sgn_cases {x : Int} (h : x ≠ 0) : (sgn x = 1 ∧ 0 < x) ∨ (sgn x = -1 ∧ x < 0) := by
  unfold sgn
  split
  · exact Or.inr ⟨rfl, by omega⟩
  · exact Or.inl ⟨rfl, by omega⟩
theorem sgn_pos {x : Int} (h : x ≠ 0) : 0 < sgn x * x := by
  rcases sgn_cases h with ⟨e, q⟩ | ⟨e, q⟩ <;> rw [e] <;> omega
theorem sgn_neg {x : Int} (h : x ≠ 0) : sgn (-x) = -sgn x := by
  rcases sgn_cases h with ⟨e, q⟩ | ⟨e, q⟩
  · rw [e]; exact if_pos (by omega)
  · rw [e]; exact if_neg (by omega)
theorem sgn_same {x y : Int} (h : x ≠ 0) (hp : 0 < sgn x * y) : sgn y = sgn x ∧ y ≠ 0 := by
  rcases sgn_cases h with ⟨e, q⟩ | ⟨e, q⟩
  · rw [e] at hp ⊢; exact ⟨if_neg (by omega), by omega⟩
  · rw [e] at hp ⊢; exact ⟨if_pos (by omega), by omega⟩
def Feas (a b c d y : Int → Int) : Prop := D4 a b c d ≠ 0 ∧ 0 < sgn (D4 a b c d) * D4 y b c d ∧ 0 < sgn (D4 a b c d) * D4 a y c d ∧ 0 < sgn (D4 a b c d) * D4 a b y d ∧ 0 < sgn (D4 a b c d) * D4 a b c y
def ObjV (a b c d : Int → Int) (p q r t : Int) (x : Int → Int) : Int := p * (sgn (D4 a b c d) * D4 x b c d) + q * (sgn (D4 a b c d) * D4 a x c d) + r * (sgn (D4 a b c d) * D4 a b x d) + t * (sgn (D4 a b c d) * D4 a b c x)
def AbsV (a b c d : Int → Int) : Int := sgn (D4 a b c d) * D4 a b c d
theorem Feas_01 {a b c d y : Int → Int} (h : Feas a b c d y) : Feas b a c d y := by
  obtain ⟨h0, h1, h2, h3, h4⟩ := h
  unfold Feas
  rw [D4_01 a b c d, sgn_neg h0, D4_01 a y c d, D4_01 y b c d, D4_01 a b y d, D4_01 a b c y]
  simp only [Int.neg_mul_neg]
  exact ⟨by omega, h2, h1, h3, h4⟩
theorem Feas_02 {a b c d y : Int → Int} (h : Feas a b c d y) : Feas c b a d y := by
  obtain ⟨h0, h1, h2, h3, h4⟩ := h
  unfold Feas
  rw [D4_02 a b c d, sgn_neg h0, D4_02 a b y d, D4_02 a y c d, D4_02 y b c d, D4_02 a b c y]
  simp only [Int.neg_mul_neg]
  exact ⟨by omega, h3, h2, h1, h4⟩
theorem Feas_03 {a b c d y : Int → Int} (h : Feas a b c d y) : Feas d b c a y := by
  obtain ⟨h0, h1, h2, h3, h4⟩ := h
  unfold Feas
  rw [D4_03 a b c d, sgn_neg h0, D4_03 a b c y, D4_03 a y c d, D4_03 a b y d, D4_03 y b c d]
  simp only [Int.neg_mul_neg]
  exact ⟨by omega, h4, h2, h3, h1⟩
theorem Obj_01 {a b c d x : Int → Int} (p q r t : Int) (h : D4 a b c d ≠ 0) : ObjV b a c d q p r t x = ObjV a b c d p q r t x ∧ AbsV b a c d = AbsV a b c d := by
  unfold ObjV AbsV
  rw [D4_01 a b c d, sgn_neg h, D4_01 a x c d, D4_01 x b c d, D4_01 a b x d, D4_01 a b c x]
  simp only [Int.neg_mul_neg]
  exact ⟨by omega, trivial⟩
theorem Obj_02 {a b c d x : Int → Int} (p q r t : Int) (h : D4 a b c d ≠ 0) : ObjV c b a d r q p t x = ObjV a b c d p q r t x ∧ AbsV c b a d = AbsV a b c d := by
  unfold ObjV AbsV
  rw [D4_02 a b c d, sgn_neg h, D4_02 a b x d, D4_02 a x c d, D4_02 x b c d, D4_02 a b c x]
  simp only [Int.neg_mul_neg]
  exact ⟨by omega, trivial⟩
theorem Obj_03 {a b c d x : Int → Int} (p q r t : Int) (h : D4 a b c d ≠ 0) : ObjV d b c a t q r p x = ObjV a b c d p q r t x ∧ AbsV d b c a = AbsV a b c d := by
  unfold ObjV AbsV
  rw [D4_03 a b c d, sgn_neg h, D4_03 a b c x, D4_03 a x c d, D4_03 a b x d, D4_03 x b c d]
  simp only [Int.neg_mul_neg]
  exact ⟨by omega, trivial⟩
theorem piv_nn {D' K A By Ay Bx : Int} (hK : 0 < K) (hA : 0 < A) (hBy : 0 < By) (hAy : 0 < Ay) (hr : 0 < Bx → Ay * Bx ≤ By * A) (h : D' * K = A * By - Ay * Bx) (hne : D' ≠ 0) : 0 < D' := by
  have h0 : 0 ≤ D' * K := by
    rw [h, Int.mul_comm A By]
    by_cases c : 0 < Bx
    · have := hr c; omega
    · have h1 := Int.mul_pos hBy hA
      have h2 := Int.mul_nonneg (show 0 ≤ Ay by omega) (show 0 ≤ -Bx by omega)
      rw [Int.mul_neg] at h2
      omega
  rcases Int.lt_trichotomy D' 0 with c | c | c
  · have h2 := Int.mul_pos (show 0 < -D' by omega) hK
    rw [Int.neg_mul] at h2
    omega
  · exact absurd c hne
  · exact c
theorem sg_mul {s x y z w u v : Int} (hs : s = 1 ∨ s = -1) (h : x * y = z * w - u * v) : (s * x) * (s * y) = (s * z) * (s * w) - (s * u) * (s * v) := by
  rcases hs with e | e <;> subst e
  · simp only [Int.one_mul]; exact h
  · simp only [Int.neg_one_mul, Int.neg_mul_neg]; exact h
/-- another column in the place of the first -/
theorem pivot {a b c d x y : Int → Int} {p q r t w : Int} (h : Feas a b c d y) (hx : 0 < sgn (D4 a b c d) * D4 x b c d)
    (r1 : 0 < sgn (D4 a b c d) * D4 a x c d → (sgn (D4 a b c d) * D4 y b c d) * (sgn (D4 a b c d) * D4 a x c d) ≤ (sgn (D4 a b c d) * D4 a y c d) * (sgn (D4 a b c d) * D4 x b c d))
    (r2 : 0 < sgn (D4 a b c d) * D4 a b x d → (sgn (D4 a b c d) * D4 y b c d) * (sgn (D4 a b c d) * D4 a b x d) ≤ (sgn (D4 a b c d) * D4 a b y d) * (sgn (D4 a b c d) * D4 x b c d))
    (r3 : 0 < sgn (D4 a b c d) * D4 a b c x → (sgn (D4 a b c d) * D4 y b c d) * (sgn (D4 a b c d) * D4 a b c x) ≤ (sgn (D4 a b c d) * D4 a b c y) * (sgn (D4 a b c d) * D4 x b c d))
    (n1 : D4 x y c d ≠ 0) (n2 : D4 x b y d ≠ 0) (n3 : D4 x b c y ≠ 0) (hred : ObjV a b c d p q r t x < w * AbsV a b c d) : Feas x b c d y ∧ ObjV a b c d p q r t y * AbsV x b c d < ObjV x b c d w q r t y * AbsV a b c d := by
  obtain ⟨h0, h1, h2, h3, h4⟩ := h
  have hs : sgn (D4 a b c d) = 1 ∨ sgn (D4 a b c d) = -1 := by
    rcases sgn_cases h0 with q | q
    · exact Or.inl q.1
    · exact Or.inr q.1
  have hK : 0 < sgn (D4 a b c d) * D4 a b c d := sgn_pos h0
  have e1 := sg_mul hs (D4_pl1 a b c d x y)
  have e2 := sg_mul hs (D4_pl2 a b c d x y)
  have e3 := sg_mul hs (D4_pl3 a b c d x y)
  obtain ⟨hs2, hd2⟩ := sgn_same h0 hx
  have nz : ∀ z : Int, z ≠ 0 → sgn (D4 a b c d) * z ≠ 0 := fun z hz => by
    rcases hs with e | e <;> rw [e] <;> omega
  have k1 := piv_nn hK hx h2 h1 r1 e1 (nz _ n1)
  have k2 := piv_nn hK hx h3 h1 r2 e2 (nz _ n2)
  have k3 := piv_nn hK hx h4 h1 r3 e3 (nz _ n3)
  unfold Feas ObjV AbsV at *
  rw [hs2]
  refine ⟨⟨hd2, h1, k1, k2, k3⟩, ?_⟩
  generalize sgn (D4 a b c d) * D4 a b c d = K at *
  generalize sgn (D4 a b c d) * D4 x b c d = Ax at *
  generalize sgn (D4 a b c d) * D4 y b c d = Ay at *
  generalize sgn (D4 a b c d) * D4 a x c d = Bx at *
  generalize sgn (D4 a b c d) * D4 a y c d = By at *
  generalize sgn (D4 a b c d) * D4 a b x d = Cx at *
  generalize sgn (D4 a b c d) * D4 a b y d = Cy at *
  generalize sgn (D4 a b c d) * D4 a b c x = Ex at *
  generalize sgn (D4 a b c d) * D4 a b c y = Ey at *
  generalize sgn (D4 a b c d) * D4 x y c d = B' at *
  generalize sgn (D4 a b c d) * D4 x b y d = C' at *
  generalize sgn (D4 a b c d) * D4 x b c y = E' at *
  have key : (w * Ay + q * B' + r * C' + t * E') * K = (p * Ay + q * By + r * Cy + t * Ey) * Ax + Ay * (w * K - (p * Ax + q * Bx + r * Cx + t * Ex)) := by
    grind
  have h5 := Int.mul_pos h1 (show 0 < w * K - (p * Ax + q * Bx + r * Cx + t * Ex) by omega)
  omega
