/-- a better four, if a column would do better -/
theorem better {a b c d x : Int → Int} {p q r t w : Int} (ha : Col a) (hb : Col b) (hc : Col c) (hd : Col d) (h : Feas a b c d Bv) (hx : 0 < sgn (D4 a b c d) * D4 x b c d) (cx : Col x)
    (r1 : 0 < sgn (D4 a b c d) * D4 a x c d → (sgn (D4 a b c d) * D4 Bv b c d) * (sgn (D4 a b c d) * D4 a x c d) ≤ (sgn (D4 a b c d) * D4 a Bv c d) * (sgn (D4 a b c d) * D4 x b c d))
    (r2 : 0 < sgn (D4 a b c d) * D4 a b x d → (sgn (D4 a b c d) * D4 Bv b c d) * (sgn (D4 a b c d) * D4 a b x d) ≤ (sgn (D4 a b c d) * D4 a b Bv d) * (sgn (D4 a b c d) * D4 x b c d))
    (r3 : 0 < sgn (D4 a b c d) * D4 a b c x → (sgn (D4 a b c d) * D4 Bv b c d) * (sgn (D4 a b c d) * D4 a b c x) ≤ (sgn (D4 a b c d) * D4 a b c Bv) * (sgn (D4 a b c d) * D4 x b c d))
    (hred : ObjV a b c d p q r t x < w * AbsV a b c d) : Feas x b c d Bv ∧ ObjV a b c d p q r t Bv * AbsV x b c d < ObjV x b c d w q r t Bv * AbsV a b c d := by
  obtain ⟨_, hne⟩ := sgn_same h.1 hx
  refine pivot h hx r1 r2 r3 ?_ ?_ ?_ hred
  · have h1 : D4 b x c d ≠ 0 := by rw [D4_01 x b c d]; omega
    have h2 := nondeg cx hc hd h1
    rw [D4_01 Bv x c d]; omega
  · have h1 : D4 c b x d ≠ 0 := by rw [D4_02 x b c d]; omega
    have h2 := nondeg hb cx hd h1
    rw [D4_02 Bv b x d]; omega
  · have h1 : D4 d b c x ≠ 0 := by rw [D4_03 x b c d]; omega
    have h2 := nondeg hb hc cx h1
    rw [D4_03 Bv b c x]; omega
theorem AbsV_pos {a b c d : Int → Int} (h : D4 a b c d ≠ 0) : 0 < AbsV a b c d := sgn_pos h
theorem D4_units : D4 (unC 0) (unC 1) (unC 2) (unC 3) = 1 ∧ D4 Bv (unC 1) (unC 2) (unC 3) = Bv 0 ∧ D4 (unC 0) Bv (unC 2) (unC 3) = Bv 1 ∧ D4 (unC 0) (unC 1) Bv (unC 3) = Bv 2 ∧ D4 (unC 0) (unC 1) (unC 2) Bv = Bv 3 := by decide +kernel
theorem dig {i0 i1 i2 i3 : Int} (h0 : 0 ≤ i0 ∧ i0 < 28) (h1 : 0 ≤ i1 ∧ i1 < 28) (h2 : 0 ≤ i2 ∧ i2 < 28) (h3 : 0 ≤ i3 ∧ i3 < 28) : (i0 + 28 * i1 + 784 * i2 + 21952 * i3) % 28 = i0 ∧ (i0 + 28 * i1 + 784 * i2 + 21952 * i3) / 28 % 28 = i1 ∧ (i0 + 28 * i1 + 784 * i2 + 21952 * i3) / 784 % 28 = i2 ∧ (i0 + 28 * i1 + 784 * i2 + 21952 * i3) / 21952 % 28 = i3 := by
  refine ⟨by omega, by omega, by omega, by omega⟩
theorem max4 {F : Int → Int → Int} {n N : Int} (N0 : 1 ≤ N) (N24 : N ≤ 24) : ∃ j0 j1 j2 j3 : Int, ((0 ≤ j0 ∧ j0 < N + 4) ∧ (0 ≤ j1 ∧ j1 < N + 4) ∧ (0 ≤ j2 ∧ j2 < N + 4) ∧ (0 ≤ j3 ∧ j3 < N + 4)) ∧ Feas (CL F n N j0) (CL F n N j1) (CL F n N j2) (CL F n N j3) Bv ∧
    ∀ i0 i1 i2 i3 : Int, (0 ≤ i0 ∧ i0 < N + 4) → (0 ≤ i1 ∧ i1 < N + 4) → (0 ≤ i2 ∧ i2 < N + 4) → (0 ≤ i3 ∧ i3 < N + 4) → Feas (CL F n N i0) (CL F n N i1) (CL F n N i2) (CL F n N i3) Bv →
      ObjV (CL F n N i0) (CL F n N i1) (CL F n N i2) (CL F n N i3) (csC N i0) (csC N i1) (csC N i2) (csC N i3) Bv * AbsV (CL F n N j0) (CL F n N j1) (CL F n N j2) (CL F n N j3) ≤ ObjV (CL F n N j0) (CL F n N j1) (CL F n N j2) (CL F n N j3) (csC N j0) (csC N j1) (csC N j2) (csC N j3) Bv * AbsV (CL F n N i0) (CL F n N i1) (CL F n N i2) (CL F n N i3) := by
  have hu : ∀ i : Int, 0 ≤ i → CL F n N (N + i) = unC i := fun i i0 => by
    funext k
    unfold CL unC
    rw [if_neg (by omega)]
    have e : N + i - N = i := by omega
    rw [e]
  obtain ⟨t, ht, hP, hmax⟩ := fr_max (P := fun t => (t % 28 < N + 4 ∧ t / 28 % 28 < N + 4 ∧ t / 784 % 28 < N + 4 ∧ t / 21952 % 28 < N + 4) ∧ Feas (CL F n N (t % 28)) (CL F n N (t / 28 % 28)) (CL F n N (t / 784 % 28)) (CL F n N (t / 21952 % 28)) Bv)
    (num := fun t => ObjV (CL F n N (t % 28)) (CL F n N (t / 28 % 28)) (CL F n N (t / 784 % 28)) (CL F n N (t / 21952 % 28)) (csC N (t % 28)) (csC N (t / 28 % 28)) (csC N (t / 784 % 28)) (csC N (t / 21952 % 28)) Bv)
    (den := fun t => AbsV (CL F n N (t % 28)) (CL F n N (t / 28 % 28)) (CL F n N (t / 784 % 28)) (CL F n N (t / 21952 % 28)))
    (fun t h => AbsV_pos h.2.1) 614656 ⟨N + 28 * (N + 1) + 784 * (N + 2) + 21952 * (N + 3), by omega, by
      obtain ⟨e0, e1, e2, e3⟩ := dig (i0 := N) (i1 := N + 1) (i2 := N + 2) (i3 := N + 3) (by omega) (by omega) (by omega) (by omega)
      have hu0 := hu 0 (by omega)
      rw [Int.add_zero] at hu0
      show (_ ∧ _ ∧ _ ∧ _) ∧ _
      rw [e0, e1, e2, e3, hu0, hu 1 (by omega), hu 2 (by omega), hu 3 (by omega)]
      refine ⟨by omega, ?_⟩
      unfold Feas
      obtain ⟨u, u0, u1, u2, u3⟩ := D4_units
      rw [u, u0, u1, u2, u3]
      decide +kernel⟩
  refine ⟨t % 28, t / 28 % 28, t / 784 % 28, t / 21952 % 28, by have := hP.1; omega, hP.2, fun i0 i1 i2 i3 h0 h1 h2 h3 hF => ?_⟩
  obtain ⟨e0, e1, e2, e3⟩ := dig (i0 := i0) (i1 := i1) (i2 := i2) (i3 := i3) (by omega) (by omega) (by omega) (by omega)
  have h := hmax (i0 + 28 * i1 + 784 * i2 + 21952 * i3) (by omega) (by omega) (by
    show (_ ∧ _ ∧ _ ∧ _) ∧ _
    rw [e0, e1, e2, e3]
    exact ⟨by omega, hF⟩)
  simp only [e0, e1, e2, e3] at h
  exact h
theorem CL_col {F : Int → Int → Int} {n N j : Int} (n4 : n ≤ 4) (hF : ∀ c r : Int, 0 ≤ c → c < n → 0 ≤ r → r < N → 1 ≤ F c r ∧ F c r ≤ 560) (j0 : 0 ≤ j) : Col (CL F n N j) := fun i i0 i1 => by
  unfold CL
  by_cases c : j < N
  · rw [if_pos c]
    by_cases c2 : i < n
    · rw [if_pos c2]
      have := hF i j i0 c2 j0 c
      omega
    · rw [if_neg c2]; omega
  · rw [if_neg c]
    split <;> omega
/-- at the best four no column does better -/
theorem opt {a b c d x : Int → Int} {p q r t w : Int} (ha : Col a) (hb : Col b) (hc : Col c) (hd : Col d) (cx : Col x) (hx : ∃ i : Int, (0 ≤ i ∧ i < 4) ∧ 0 < x i) (h : Feas a b c d Bv)
    (m0 : Feas x b c d Bv → ¬ ObjV a b c d p q r t Bv * AbsV x b c d < ObjV x b c d w q r t Bv * AbsV a b c d)
    (m1 : Feas x a c d Bv → ¬ ObjV a b c d p q r t Bv * AbsV x a c d < ObjV x a c d w p r t Bv * AbsV a b c d)
    (m2 : Feas x b a d Bv → ¬ ObjV a b c d p q r t Bv * AbsV x b a d < ObjV x b a d w q p t Bv * AbsV a b c d)
    (m3 : Feas x b c a Bv → ¬ ObjV a b c d p q r t Bv * AbsV x b c a < ObjV x b c a w q r p Bv * AbsV a b c d) : w * AbsV a b c d ≤ ObjV a b c d p q r t x := by
  by_cases hred : ObjV a b c d p q r t x < w * AbsV a b c d
  · exfalso
    have h0 := h.1
    generalize hs : sgn (D4 a b c d) = s at *
    have hs1 : s = 1 ∨ s = -1 := by
      rcases sgn_cases h0 with q | q
      · exact Or.inl (hs ▸ q.1)
      · exact Or.inr (hs ▸ q.1)
    have hK : 0 < s * D4 a b c d := hs ▸ sgn_pos h0
    obtain ⟨i, hi, hxi⟩ := hx
    have cram : ∀ i : Int, 0 ≤ i → i < 4 → (s * D4 a b c d) * x i = (s * D4 x b c d) * a i + (s * D4 a x c d) * b i + (s * D4 a b x d) * c i + (s * D4 a b c x) * d i := fun i i0 i1 => by
      have hh : D4 a b c d * x i = D4 x b c d * a i + D4 a x c d * b i + D4 a b x d * c i + D4 a b c x * d i := by
        rcases (by omega : i = 0 ∨ i = 1 ∨ i = 2 ∨ i = 3) with e | e | e | e <;> subst e
        · exact D4_cr0 a b c d x
        · exact D4_cr1 a b c d x
        · exact D4_cr2 a b c d x
        · exact D4_cr3 a b c d x
      rw [Int.mul_assoc, hh]
      grind
    have hex : ∃ l : Int, (0 ≤ l ∧ l < ((4 : Nat) : Int)) ∧ 0 < pf4 (s * D4 x b c d) (s * D4 a x c d) (s * D4 a b x d) (s * D4 a b c x) l := by
      have hci := cram i hi.1 hi.2
      have a1 := (ha i hi.1 hi.2).1
      have b1 := (hb i hi.1 hi.2).1
      have c1 := (hc i hi.1 hi.2).1
      have d1 := (hd i hi.1 hi.2).1
      by_cases q0 : 0 < s * D4 x b c d
      · exact ⟨0, by omega, q0⟩
      by_cases q1 : 0 < s * D4 a x c d
      · exact ⟨1, by omega, q1⟩
      by_cases q2 : 0 < s * D4 a b x d
      · exact ⟨2, by omega, q2⟩
      by_cases q3 : 0 < s * D4 a b c x
      · exact ⟨3, by omega, q3⟩
      have k := Int.mul_pos hK hxi
      have k0 := Int.mul_nonneg (show 0 ≤ -(s * D4 x b c d) by omega) a1
      have k1 := Int.mul_nonneg (show 0 ≤ -(s * D4 a x c d) by omega) b1
      have k2 := Int.mul_nonneg (show 0 ≤ -(s * D4 a b x d) by omega) c1
      have k3 := Int.mul_nonneg (show 0 ≤ -(s * D4 a b c x) by omega) d1
      rw [Int.neg_mul] at k0 k1 k2 k3
      omega
    obtain ⟨l, hl, hP, hmin⟩ := fr_max (P := fun l => 0 < pf4 (s * D4 x b c d) (s * D4 a x c d) (s * D4 a b x d) (s * D4 a b c x) l) (num := fun l => -(pf4 (s * D4 Bv b c d) (s * D4 a Bv c d) (s * D4 a b Bv d) (s * D4 a b c Bv) l)) (den := pf4 (s * D4 x b c d) (s * D4 a x c d) (s * D4 a b x d) (s * D4 a b c x)) (fun _ h => h) 4 hex
    have mn : ∀ j : Int, 0 ≤ j → j < 4 → 0 < pf4 (s * D4 x b c d) (s * D4 a x c d) (s * D4 a b x d) (s * D4 a b c x) j → pf4 (s * D4 Bv b c d) (s * D4 a Bv c d) (s * D4 a b Bv d) (s * D4 a b c Bv) l * pf4 (s * D4 x b c d) (s * D4 a x c d) (s * D4 a b x d) (s * D4 a b c x) j ≤ pf4 (s * D4 Bv b c d) (s * D4 a Bv c d) (s * D4 a b Bv d) (s * D4 a b c Bv) j * pf4 (s * D4 x b c d) (s * D4 a x c d) (s * D4 a b x d) (s * D4 a b c x) l := fun j j0 j1 hj => by
      have h := hmin j j0 (by omega) hj
      simp only [Int.neg_mul] at h
      omega
    have n0 := mn 0 (by omega) (by omega)
    have n1 := mn 1 (by omega) (by omega)
    have n2 := mn 2 (by omega) (by omega)
    have n3 := mn 3 (by omega) (by omega)
    rcases (by omega : l = 0 ∨ l = 1 ∨ l = 2 ∨ l = 3) with e | e | e | e <;> subst e
    · simp only [pf4_0, pf4_1, pf4_2, pf4_3] at hP n0 n1 n2 n3
      subst hs
      have := better (p := p) (q := q) (r := r) (t := t) (w := w) ha hb hc hd h hP cx n1 n2 n3 hred
      exact m0 this.1 this.2
    · simp only [pf4_0, pf4_1, pf4_2, pf4_3] at hP n0 n1 n2 n3
      subst hs
      have o := fun y => Obj_01 (x := y) p q r t h0
      have e1 := sgn_neg h0
      have := better (p := q) (q := p) (r := r) (t := t) (w := w) hb ha hc hd (Feas_01 h) (x := x)
      rw [D4_01 a b c d, e1, D4_01 a x c d, D4_01 x b c d, D4_01 a b x d, D4_01 a b c x, D4_01 a Bv c d, D4_01 Bv b c d, D4_01 a b Bv d, D4_01 a b c Bv, (o x).1, (o x).2, (o Bv).1] at this
      simp only [Int.neg_mul_neg] at this
      have := this hP cx n0 n2 n3 hred
      exact m1 this.1 this.2
    · simp only [pf4_0, pf4_1, pf4_2, pf4_3] at hP n0 n1 n2 n3
      subst hs
      have o := fun y => Obj_02 (x := y) p q r t h0
      have e1 := sgn_neg h0
      have := better (p := r) (q := q) (r := p) (t := t) (w := w) hc hb ha hd (Feas_02 h) (x := x)
      rw [D4_02 a b c d, e1, D4_02 a b x d, D4_02 a x c d, D4_02 x b c d, D4_02 a b c x, D4_02 a b Bv d, D4_02 a Bv c d, D4_02 Bv b c d, D4_02 a b c Bv, (o x).1, (o x).2, (o Bv).1] at this
      simp only [Int.neg_mul_neg] at this
      have := this hP cx n1 n0 n3 hred
      exact m2 this.1 this.2
    · simp only [pf4_0, pf4_1, pf4_2, pf4_3] at hP n0 n1 n2 n3
      subst hs
      have o := fun y => Obj_03 (x := y) p q r t h0
      have e1 := sgn_neg h0
      have := better (p := t) (q := q) (r := r) (t := p) (w := w) hd hb hc ha (Feas_03 h) (x := x)
      rw [D4_03 a b c d, e1, D4_03 a b c x, D4_03 a x c d, D4_03 a b x d, D4_03 x b c d, D4_03 a b c Bv, D4_03 a Bv c d, D4_03 a b Bv d, D4_03 Bv b c d, (o x).1, (o x).2, (o Bv).1] at this
      simp only [Int.neg_mul_neg] at this
      have := this hP cx n1 n2 n0 hred
      exact m3 this.1 this.2
  · omega
theorem Obj_lin (a b c d : Int → Int) (p q r t : Int) (x : Int → Int) : ObjV a b c d p q r t x = x 0 * ObjV a b c d p q r t (unC 0) + x 1 * ObjV a b c d p q r t (unC 1) + x 2 * ObjV a b c d p q r t (unC 2) + x 3 * ObjV a b c d p q r t (unC 3) := by
  have l0 := D4_lin x b c d
  have l1 : D4 a x c d = x 0 * D4 a (unC 0) c d + x 1 * D4 a (unC 1) c d + x 2 * D4 a (unC 2) c d + x 3 * D4 a (unC 3) c d := by
    rw [D4_01 x a c d, D4_lin x, D4_01 (unC 0) a, D4_01 (unC 1) a, D4_01 (unC 2) a, D4_01 (unC 3) a]; grind
  have l2 : D4 a b x d = x 0 * D4 a b (unC 0) d + x 1 * D4 a b (unC 1) d + x 2 * D4 a b (unC 2) d + x 3 * D4 a b (unC 3) d := by
    rw [D4_02 x b a d, D4_lin x, D4_02 (unC 0) b a, D4_02 (unC 1) b a, D4_02 (unC 2) b a, D4_02 (unC 3) b a]; grind
  have l3 : D4 a b c x = x 0 * D4 a b c (unC 0) + x 1 * D4 a b c (unC 1) + x 2 * D4 a b c (unC 2) + x 3 * D4 a b c (unC 3) := by
    rw [D4_03 x b c a, D4_lin x, D4_03 (unC 0) b c a, D4_03 (unC 1) b c a, D4_03 (unC 2) b c a, D4_03 (unC 3) b c a]; grind
  unfold ObjV
  rw [l0, l1, l2, l3]
  grind
