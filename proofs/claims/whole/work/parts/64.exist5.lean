/-! the kernel out of the best four columns -/
theorem D4_e02 (a b d : Int → Int) : D4 a b a d = 0 := by unfold D4; grind
theorem D4_e03 (a b c : Int → Int) : D4 a b c a = 0 := by unfold D4; grind
theorem D4_e13 (a b c : Int → Int) : D4 a b c b = 0 := by unfold D4; grind
def PT (F : Int → Int → Int) (n N j0 j1 j2 j3 : Int) : Prop := ((0 ≤ j0 ∧ j0 < N + 4) ∧ (0 ≤ j1 ∧ j1 < N + 4) ∧ (0 ≤ j2 ∧ j2 < N + 4) ∧ (0 ≤ j3 ∧ j3 < N + 4)) ∧ D4 (CL F n N j0) (CL F n N j1) (CL F n N j2) (CL F n N j3) ≠ 0 ∧ ∃ (K y0 y1 y2 y3 : Int) (X : Int → Int), 0 < K ∧ (0 ≤ y0 ∧ 0 ≤ y1 ∧ 0 ≤ y2 ∧ 0 ≤ y3) ∧
  (∀ i, 0 ≤ i → i < 4 → y0 * CL F n N j0 i + y1 * CL F n N j1 i + y2 * CL F n N j2 i + y3 * CL F n N j3 i = K) ∧ (∀ i, 0 ≤ i → i < 4 → 0 ≤ X i) ∧
  (X 0 * CL F n N j0 0 + X 1 * CL F n N j0 1 + X 2 * CL F n N j0 2 + X 3 * CL F n N j0 3 = csC N j0 * K ∧ X 0 * CL F n N j1 0 + X 1 * CL F n N j1 1 + X 2 * CL F n N j1 2 + X 3 * CL F n N j1 3 = csC N j1 * K ∧ X 0 * CL F n N j2 0 + X 1 * CL F n N j2 1 + X 2 * CL F n N j2 2 + X 3 * CL F n N j2 3 = csC N j2 * K ∧ X 0 * CL F n N j3 0 + X 1 * CL F n N j3 1 + X 2 * CL F n N j3 2 + X 3 * CL F n N j3 3 = csC N j3 * K) ∧
  ∀ r, 0 ≤ r → r < N → K ≤ X 0 * CL F n N r 0 + X 1 * CL F n N r 1 + X 2 * CL F n N r 2 + X 3 * CL F n N r 3
theorem pt_01 {F : Int → Int → Int} {n N a b c d : Int} (h : PT F n N a b c d) : PT F n N b a c d := by
  obtain ⟨⟨v0, v1, v2, v3⟩, hd, K, y0, y1, y2, y3, X, hK, ⟨q0, q1, q2, q3⟩, hr, hX, ⟨g0, g1, g2, g3⟩, hc⟩ := h
  exact ⟨⟨v1, v0, v2, v3⟩, by rw [D4_01 (CL F n N a)]; omega, K, y1, y0, y2, y3, X, hK, ⟨q1, q0, q2, q3⟩, fun i i0 i1 => by have := hr i i0 i1; omega, hX, ⟨g1, g0, g2, g3⟩, hc⟩
theorem pt_12 {F : Int → Int → Int} {n N a b c d : Int} (h : PT F n N a b c d) : PT F n N a c b d := by
  obtain ⟨⟨v0, v1, v2, v3⟩, hd, K, y0, y1, y2, y3, X, hK, ⟨q0, q1, q2, q3⟩, hr, hX, ⟨g0, g1, g2, g3⟩, hc⟩ := h
  exact ⟨⟨v0, v2, v1, v3⟩, by rw [D4_12 _ (CL F n N b)]; omega, K, y0, y2, y1, y3, X, hK, ⟨q0, q2, q1, q3⟩, fun i i0 i1 => by have := hr i i0 i1; omega, hX, ⟨g0, g2, g1, g3⟩, hc⟩
theorem pt_23 {F : Int → Int → Int} {n N a b c d : Int} (h : PT F n N a b c d) : PT F n N a b d c := by
  obtain ⟨⟨v0, v1, v2, v3⟩, hd, K, y0, y1, y2, y3, X, hK, ⟨q0, q1, q2, q3⟩, hr, hX, ⟨g0, g1, g2, g3⟩, hc⟩ := h
  exact ⟨⟨v0, v1, v3, v2⟩, by rw [D4_23 _ _ (CL F n N c)]; omega, K, y0, y1, y3, y2, X, hK, ⟨q0, q1, q3, q2⟩, fun i i0 i1 => by have := hr i i0 i1; omega, hX, ⟨g0, g1, g3, g2⟩, hc⟩
theorem pt_sort {F : Int → Int → Int} {n N a b c d : Int} (h : PT F n N a b c d) : ∃ a b c d, PT F n N a b c d ∧ a < b ∧ b < c ∧ c < d := by
  have s01 : ∀ {a b c d : Int}, PT F n N a b c d → PT F n N (min a b) (max a b) c d := fun {a b c d} h => by
    by_cases q : a ≤ b
    · rw [Int.min_eq_left q, Int.max_eq_right q]; exact h
    · rw [Int.min_eq_right (by omega), Int.max_eq_left (by omega)]; exact pt_01 h
  have s12 : ∀ {a b c d : Int}, PT F n N a b c d → PT F n N a (min b c) (max b c) d := fun {a b c d} h => by
    by_cases q : b ≤ c
    · rw [Int.min_eq_left q, Int.max_eq_right q]; exact h
    · rw [Int.min_eq_right (by omega), Int.max_eq_left (by omega)]; exact pt_12 h
  have s23 : ∀ {a b c d : Int}, PT F n N a b c d → PT F n N a b (min c d) (max c d) := fun {a b c d} h => by
    by_cases q : c ≤ d
    · rw [Int.min_eq_left q, Int.max_eq_right q]; exact h
    · rw [Int.min_eq_right (by omega), Int.max_eq_left (by omega)]; exact pt_23 h
  have h6 := s01 (s12 (s01 (s23 (s12 (s01 h)))))
  refine ⟨_, _, _, _, h6, ?_⟩
  have n01 : ∀ {a b c d : Int}, PT F n N a b c d → a ≠ b := fun {a b c d} h q => by
    subst q; exact h.2.1 (D4_e01 _ _ _)
  have n12 : ∀ {a b c d : Int}, PT F n N a b c d → b ≠ c := fun {a b c d} h q => by
    subst q; exact h.2.1 (D4_e12 _ _ _)
  have n23 : ∀ {a b c d : Int}, PT F n N a b c d → c ≠ d := fun {a b c d} h q => by
    subst q; exact h.2.1 (D4_e23 _ _ _)
  have x1 := n01 h6
  have x2 := n12 h6
  have x3 := n23 h6
  omega
theorem pt_ex {F : Int → Int → Int} {n N : Int} (n1 : 1 ≤ n) (n4 : n ≤ 4) (N1 : 1 ≤ N) (N24 : N ≤ 24) (hF : ∀ c r : Int, 0 ≤ c → c < n → 0 ≤ r → r < N → 1 ≤ F c r ∧ F c r ≤ 560) : ∃ a b c d, PT F n N a b c d := by
  obtain ⟨j0, j1, j2, j3, ⟨v0, v1, v2, v3⟩, hf, hmax⟩ := max4 (F := F) (n := n) N1 N24
  refine ⟨j0, j1, j2, j3, ⟨v0, v1, v2, v3⟩, hf.1, ?_⟩
  have col := fun (j : Int) (j0 : 0 ≤ j) => CL_col (j := j) n4 hF j0
  have pos : ∀ j : Int, 0 ≤ j → j < N + 4 → ∃ i : Int, (0 ≤ i ∧ i < 4) ∧ 0 < CL F n N j i := fun j j0 j1 => by
    unfold CL
    by_cases q : j < N
    · refine ⟨0, by omega, ?_⟩
      rw [if_pos q, if_pos (by omega)]
      have := hF 0 j (by omega) (by omega) j0 q
      omega
    · refine ⟨j - N, by omega, ?_⟩
      rw [if_neg q, if_pos rfl]
      omega
  have op := fun (j : Int) (h0 : 0 ≤ j) (h1 : j < N + 4) => opt (p := csC N j0) (q := csC N j1) (r := csC N j2) (t := csC N j3) (w := csC N j) (col j0 v0.1) (col j1 v1.1) (col j2 v2.1) (col j3 v3.1) (col j h0) (pos j h0 h1) hf (fun h => Int.not_lt.mpr (hmax j j1 j2 j3 ⟨h0, h1⟩ v1 v2 v3 h)) (fun h => Int.not_lt.mpr (hmax j j0 j2 j3 ⟨h0, h1⟩ v0 v2 v3 h)) (fun h => Int.not_lt.mpr (hmax j j1 j0 j3 ⟨h0, h1⟩ v1 v0 v3 h)) (fun h => Int.not_lt.mpr (hmax j j1 j2 j0 ⟨h0, h1⟩ v1 v2 v0 h))
  have c0 := col j0 v0.1
  have c1 := col j1 v1.1
  have c2 := col j2 v2.1
  have c3 := col j3 v3.1
  have hu : ∀ i : Int, 0 ≤ i → CL F n N (N + i) = unC i := fun i i0 => by
    funext k
    unfold CL unC
    rw [if_neg (by omega)]
    have e : N + i - N = i := by omega
    rw [e]
  have cr0 := D4_cr0 (CL F n N j0) (CL F n N j1) (CL F n N j2) (CL F n N j3) one4
  have cr1 := D4_cr1 (CL F n N j0) (CL F n N j1) (CL F n N j2) (CL F n N j3) one4
  have cr2 := D4_cr2 (CL F n N j0) (CL F n N j1) (CL F n N j2) (CL F n N j3) one4
  have cr3 := D4_cr3 (CL F n N j0) (CL F n N j1) (CL F n N j2) (CL F n N j3) one4
  generalize CL F n N j0 = a at *
  generalize CL F n N j1 = b at *
  generalize CL F n N j2 = c at *
  generalize CL F n N j3 = d at *
  obtain ⟨h0, p0, p1, p2, p3⟩ := hf
  have hs : sgn (D4 a b c d) = 1 ∨ sgn (D4 a b c d) = -1 := by
    rcases sgn_cases h0 with q | q
    · exact Or.inl q.1
    · exact Or.inr q.1
  have hs' : -sgn (D4 a b c d) = 1 ∨ -sgn (D4 a b c d) = -1 := by omega
  have y0 := sg_Bv hs c1 c2 c3 p0
  have y1 : 0 ≤ sgn (D4 a b c d) * D4 a one4 c d := by
    have := sg_Bv (b := a) (c := c) (d := d) hs' c0 c2 c3 (by rw [D4_01 a Bv c d, Int.neg_mul_neg]; exact p1)
    rw [D4_01 a one4 c d, Int.neg_mul_neg] at this; exact this
  have y2 : 0 ≤ sgn (D4 a b c d) * D4 a b one4 d := by
    have := sg_Bv (b := b) (c := a) (d := d) hs' c1 c0 c3 (by rw [D4_02 a b Bv d, Int.neg_mul_neg]; exact p2)
    rw [D4_02 a b one4 d, Int.neg_mul_neg] at this; exact this
  have y3 : 0 ≤ sgn (D4 a b c d) * D4 a b c one4 := by
    have := sg_Bv (b := b) (c := c) (d := a) hs' c1 c2 c0 (by rw [D4_03 a b c Bv, Int.neg_mul_neg]; exact p3)
    rw [D4_03 a b c one4, Int.neg_mul_neg] at this; exact this
  refine ⟨AbsV a b c d, sgn (D4 a b c d) * D4 one4 b c d, sgn (D4 a b c d) * D4 a one4 c d, sgn (D4 a b c d) * D4 a b one4 d, sgn (D4 a b c d) * D4 a b c one4, fun i => ObjV a b c d (csC N j0) (csC N j1) (csC N j2) (csC N j3) (unC i), sgn_pos h0, ⟨y0, y1, y2, y3⟩, fun i i0 i1 => ?_, fun i i0 i1 => ?_, ⟨?_, ?_, ?_, ?_⟩, fun r r0 r1 => ?_⟩
  · have e : ∀ i, one4 i = 1 := fun _ => rfl
    rw [e, Int.mul_one] at cr0 cr1 cr2 cr3
    unfold AbsV
    generalize sgn (D4 a b c d) = s
    rcases (by omega : i = 0 ∨ i = 1 ∨ i = 2 ∨ i = 3) with e | e | e | e <;> subst e
    · rw [cr0]; clear cr0 cr1 cr2 cr3; grind
    · rw [cr1]; clear cr0 cr1 cr2 cr3; grind
    · rw [cr2]; clear cr0 cr1 cr2 cr3; grind
    · rw [cr3]; clear cr0 cr1 cr2 cr3; grind
  · have h := op (N + i) (by omega) (by omega)
    rw [hu i i0] at h
    have e : csC N (N + i) = 0 := if_neg (by omega)
    rw [e, Int.zero_mul] at h
    exact h
  · have h := Obj_lin a b c d (csC N j0) (csC N j1) (csC N j2) (csC N j3) a
    have e : ObjV a b c d (csC N j0) (csC N j1) (csC N j2) (csC N j3) a = csC N j0 * AbsV a b c d := by
      unfold ObjV AbsV
      rw [D4_e01 a, D4_e02 a, D4_e03 a]
      simp only [Int.mul_zero, Int.add_zero]
    rw [e] at h
    rw [h]
    grind
  · have h := Obj_lin a b c d (csC N j0) (csC N j1) (csC N j2) (csC N j3) b
    have e : ObjV a b c d (csC N j0) (csC N j1) (csC N j2) (csC N j3) b = csC N j1 * AbsV a b c d := by
      unfold ObjV AbsV
      rw [D4_e01 b, D4_e12 a b, D4_e13 a b]
      simp only [Int.mul_zero, Int.add_zero, Int.zero_add]
    rw [e] at h
    rw [h]
    grind
  · have h := Obj_lin a b c d (csC N j0) (csC N j1) (csC N j2) (csC N j3) c
    have e : ObjV a b c d (csC N j0) (csC N j1) (csC N j2) (csC N j3) c = csC N j2 * AbsV a b c d := by
      unfold ObjV AbsV
      rw [D4_e02 c, D4_e12 a c, D4_e23 a b]
      simp only [Int.mul_zero, Int.add_zero, Int.zero_add]
    rw [e] at h
    rw [h]
    grind
  · have h := Obj_lin a b c d (csC N j0) (csC N j1) (csC N j2) (csC N j3) d
    have e : ObjV a b c d (csC N j0) (csC N j1) (csC N j2) (csC N j3) d = csC N j3 * AbsV a b c d := by
      unfold ObjV AbsV
      rw [D4_e03 d, D4_e13 a d, D4_e23 a b]
      simp only [Int.mul_zero, Int.add_zero, Int.zero_add]
    rw [e] at h
    rw [h]
    grind
  · have h := op r r0 (by omega)
    rw [Obj_lin] at h
    have e : csC N r = 1 := if_pos r1
    rw [e, Int.one_mul] at h
    refine Int.le_trans h (Int.le_of_eq ?_)
    grind
theorem CLs {F : Int → Int → Int} {n N s i : Int} (s0 : 0 ≤ s) : CL F n N (N + s) i = if i = s then 1 else 0 := by
  unfold CL
  rw [if_neg (by omega)]
  have e : N + s - N = s := by omega
  rw [e]
theorem CLo {F : Int → Int → Int} {n N j i : Int} (hj : j < N) (hi : i < n) : CL F n N j i = F i j := by
  unfold CL; rw [if_pos hj, if_pos hi]
theorem CLz {F : Int → Int → Int} {n N j i : Int} (hj : j < N) (hi : ¬ i < n) : CL F n N j i = 0 := by
  unfold CL; rw [if_pos hj, if_neg hi]
theorem CLnn {F : Int → Int → Int} {n N s i : Int} (s0 : 0 ≤ s) : 0 ≤ CL F n N (N + s) i := by
  rw [CLs s0]; split <;> omega
theorem ker_1_012 {F : Int → Int → Int} {n N j0 : Int} (n4 : n ≤ 4) (hj : 0 ≤ j0 ∧ j0 < N) (h : PT F n N j0 (N + 0) (N + 1) (N + 2)) : ∃ k cp rp, (1 ≤ k ∧ k ≤ n) ∧ Pk k n cp ∧ Pk k N rp ∧ Good F n N k cp rp := by
  obtain ⟨_, hd, K, y0, y1, y2, y3, X, hK, ⟨q0, q1, q2, q3⟩, hr, hX, ⟨g0, g1, g2, g3⟩, hc⟩ := h
  have hc1 : ∀ j, j < N → csC N j = 1 := fun j h => if_pos h
  have z10 : CL F n N (N + 0) 0 = 1 := (CLs (by omega)).trans (by decide)
  have z11 : CL F n N (N + 0) 1 = 0 := (CLs (by omega)).trans (by decide)
  have z12 : CL F n N (N + 0) 2 = 0 := (CLs (by omega)).trans (by decide)
  have z13 : CL F n N (N + 0) 3 = 0 := (CLs (by omega)).trans (by decide)
  have w1 : csC N (N + 0) = 0 := if_neg (by omega)
  have x0 : X 0 = 0 := by
    rw [z10, z11, z12, z13, w1] at g1
    simp only [Int.mul_zero, Int.mul_one, Int.zero_mul, Int.add_zero, Int.zero_add] at g1
    exact g1
  have z20 : CL F n N (N + 1) 0 = 0 := (CLs (by omega)).trans (by decide)
  have z21 : CL F n N (N + 1) 1 = 1 := (CLs (by omega)).trans (by decide)
  have z22 : CL F n N (N + 1) 2 = 0 := (CLs (by omega)).trans (by decide)
  have z23 : CL F n N (N + 1) 3 = 0 := (CLs (by omega)).trans (by decide)
  have w2 : csC N (N + 1) = 0 := if_neg (by omega)
  have x1 : X 1 = 0 := by
    rw [z20, z21, z22, z23, w2] at g2
    simp only [Int.mul_zero, Int.mul_one, Int.zero_mul, Int.add_zero, Int.zero_add] at g2
    exact g2
  have z30 : CL F n N (N + 2) 0 = 0 := (CLs (by omega)).trans (by decide)
  have z31 : CL F n N (N + 2) 1 = 0 := (CLs (by omega)).trans (by decide)
  have z32 : CL F n N (N + 2) 2 = 1 := (CLs (by omega)).trans (by decide)
  have z33 : CL F n N (N + 2) 3 = 0 := (CLs (by omega)).trans (by decide)
  have w3 : csC N (N + 2) = 0 := if_neg (by omega)
  have x2 : X 2 = 0 := by
    rw [z30, z31, z32, z33, w3] at g3
    simp only [Int.mul_zero, Int.mul_one, Int.zero_mul, Int.add_zero, Int.zero_add] at g3
    exact g3
  have r3 := hr 3 (by omega) (by omega)
  have n3 : 3 < n := by
    by_cases q : 3 < n
    · exact q
    · exfalso
      rw [CLz (j := j0) (by omega) q, z13, z23, z33] at r3
      simp only [Int.mul_zero, Int.add_zero] at r3
      omega
  have o03 : CL F n N j0 3 = F 3 j0 := CLo (by omega) n3
  rw [o03, z13, z23, z33] at r3
  simp only [Int.mul_zero, Int.add_zero] at r3
  rw [o03, x0, x1, x2, hc1 j0 (by omega)] at g0
  simp only [Int.zero_mul, Int.one_mul, Int.add_zero, Int.zero_add] at g0
  have md : MD1 F (pf4 3 0 0 0) (pf4 j0 0 0 0) ≠ 0 := by
    intro q
    unfold MD1 at q
    simp only [pf4_0, pf4_1, pf4_2, pf4_3] at q
    refine hd ?_
    unfold D4
    rw [o03, z10, z11, z12, z13, z20, z21, z22, z23, z30, z31, z32, z33]
    clear hr hX hc hK hd r3 g0 g1 g2 g3
    grind
  refine good_1 hK (c0 := 3) (by omega) hj (by omega) (hX 3 (by omega) (by omega)) r3 g0 (fun c c0 c1 => ?_) (fun r r0 r1 => ?_) md
  · have h1 := hr c c0 (by omega)
    rw [CLo (j := j0) (by omega) c1] at h1
    have p1 := Int.mul_nonneg q1 (CLnn (F := F) (n := n) (N := N) (s := 0) (i := c) (by omega))
    have p2 := Int.mul_nonneg q2 (CLnn (F := F) (n := n) (N := N) (s := 1) (i := c) (by omega))
    have p3 := Int.mul_nonneg q3 (CLnn (F := F) (n := n) (N := N) (s := 2) (i := c) (by omega))
    omega
  · have h1 := hc r r0 r1
    rw [CLo (j := r) r1 n3, x0, x1, x2] at h1
    simp only [Int.zero_mul, Int.add_zero, Int.zero_add] at h1
    exact h1
theorem ker_1_013 {F : Int → Int → Int} {n N j0 : Int} (n4 : n ≤ 4) (hj : 0 ≤ j0 ∧ j0 < N) (h : PT F n N j0 (N + 0) (N + 1) (N + 3)) : ∃ k cp rp, (1 ≤ k ∧ k ≤ n) ∧ Pk k n cp ∧ Pk k N rp ∧ Good F n N k cp rp := by
  obtain ⟨_, hd, K, y0, y1, y2, y3, X, hK, ⟨q0, q1, q2, q3⟩, hr, hX, ⟨g0, g1, g2, g3⟩, hc⟩ := h
  have hc1 : ∀ j, j < N → csC N j = 1 := fun j h => if_pos h
  have z10 : CL F n N (N + 0) 0 = 1 := (CLs (by omega)).trans (by decide)
  have z11 : CL F n N (N + 0) 1 = 0 := (CLs (by omega)).trans (by decide)
  have z12 : CL F n N (N + 0) 2 = 0 := (CLs (by omega)).trans (by decide)
  have z13 : CL F n N (N + 0) 3 = 0 := (CLs (by omega)).trans (by decide)
  have w1 : csC N (N + 0) = 0 := if_neg (by omega)
  have x0 : X 0 = 0 := by
    rw [z10, z11, z12, z13, w1] at g1
    simp only [Int.mul_zero, Int.mul_one, Int.zero_mul, Int.add_zero, Int.zero_add] at g1
    exact g1
  have z20 : CL F n N (N + 1) 0 = 0 := (CLs (by omega)).trans (by decide)
  have z21 : CL F n N (N + 1) 1 = 1 := (CLs (by omega)).trans (by decide)
  have z22 : CL F n N (N + 1) 2 = 0 := (CLs (by omega)).trans (by decide)
  have z23 : CL F n N (N + 1) 3 = 0 := (CLs (by omega)).trans (by decide)
  have w2 : csC N (N + 1) = 0 := if_neg (by omega)
  have x1 : X 1 = 0 := by
    rw [z20, z21, z22, z23, w2] at g2
    simp only [Int.mul_zero, Int.mul_one, Int.zero_mul, Int.add_zero, Int.zero_add] at g2
    exact g2
  have z30 : CL F n N (N + 3) 0 = 0 := (CLs (by omega)).trans (by decide)
  have z31 : CL F n N (N + 3) 1 = 0 := (CLs (by omega)).trans (by decide)
  have z32 : CL F n N (N + 3) 2 = 0 := (CLs (by omega)).trans (by decide)
  have z33 : CL F n N (N + 3) 3 = 1 := (CLs (by omega)).trans (by decide)
  have w3 : csC N (N + 3) = 0 := if_neg (by omega)
  have x3 : X 3 = 0 := by
    rw [z30, z31, z32, z33, w3] at g3
    simp only [Int.mul_zero, Int.mul_one, Int.zero_mul, Int.add_zero, Int.zero_add] at g3
    exact g3
  have r2 := hr 2 (by omega) (by omega)
  have n2 : 2 < n := by
    by_cases q : 2 < n
    · exact q
    · exfalso
      rw [CLz (j := j0) (by omega) q, z12, z22, z32] at r2
      simp only [Int.mul_zero, Int.add_zero] at r2
      omega
  have o02 : CL F n N j0 2 = F 2 j0 := CLo (by omega) n2
  rw [o02, z12, z22, z32] at r2
  simp only [Int.mul_zero, Int.add_zero] at r2
  rw [o02, x0, x1, x3, hc1 j0 (by omega)] at g0
  simp only [Int.zero_mul, Int.one_mul, Int.add_zero, Int.zero_add] at g0
  have md : MD1 F (pf4 2 0 0 0) (pf4 j0 0 0 0) ≠ 0 := by
    intro q
    unfold MD1 at q
    simp only [pf4_0, pf4_1, pf4_2, pf4_3] at q
    refine hd ?_
    unfold D4
    rw [o02, z10, z11, z12, z13, z20, z21, z22, z23, z30, z31, z32, z33]
    clear hr hX hc hK hd r2 g0 g1 g2 g3
    grind
  refine good_1 hK (c0 := 2) (by omega) hj (by omega) (hX 2 (by omega) (by omega)) r2 g0 (fun c c0 c1 => ?_) (fun r r0 r1 => ?_) md
  · have h1 := hr c c0 (by omega)
    rw [CLo (j := j0) (by omega) c1] at h1
    have p1 := Int.mul_nonneg q1 (CLnn (F := F) (n := n) (N := N) (s := 0) (i := c) (by omega))
    have p2 := Int.mul_nonneg q2 (CLnn (F := F) (n := n) (N := N) (s := 1) (i := c) (by omega))
    have p3 := Int.mul_nonneg q3 (CLnn (F := F) (n := n) (N := N) (s := 3) (i := c) (by omega))
    omega
  · have h1 := hc r r0 r1
    rw [CLo (j := r) r1 n2, x0, x1, x3] at h1
    simp only [Int.zero_mul, Int.add_zero, Int.zero_add] at h1
    exact h1
theorem ker_1_023 {F : Int → Int → Int} {n N j0 : Int} (n4 : n ≤ 4) (hj : 0 ≤ j0 ∧ j0 < N) (h : PT F n N j0 (N + 0) (N + 2) (N + 3)) : ∃ k cp rp, (1 ≤ k ∧ k ≤ n) ∧ Pk k n cp ∧ Pk k N rp ∧ Good F n N k cp rp := by
  obtain ⟨_, hd, K, y0, y1, y2, y3, X, hK, ⟨q0, q1, q2, q3⟩, hr, hX, ⟨g0, g1, g2, g3⟩, hc⟩ := h
  have hc1 : ∀ j, j < N → csC N j = 1 := fun j h => if_pos h
  have z10 : CL F n N (N + 0) 0 = 1 := (CLs (by omega)).trans (by decide)
  have z11 : CL F n N (N + 0) 1 = 0 := (CLs (by omega)).trans (by decide)
  have z12 : CL F n N (N + 0) 2 = 0 := (CLs (by omega)).trans (by decide)
  have z13 : CL F n N (N + 0) 3 = 0 := (CLs (by omega)).trans (by decide)
  have w1 : csC N (N + 0) = 0 := if_neg (by omega)
  have x0 : X 0 = 0 := by
    rw [z10, z11, z12, z13, w1] at g1
    simp only [Int.mul_zero, Int.mul_one, Int.zero_mul, Int.add_zero, Int.zero_add] at g1
    exact g1
  have z20 : CL F n N (N + 2) 0 = 0 := (CLs (by omega)).trans (by decide)
  have z21 : CL F n N (N + 2) 1 = 0 := (CLs (by omega)).trans (by decide)
  have z22 : CL F n N (N + 2) 2 = 1 := (CLs (by omega)).trans (by decide)
  have z23 : CL F n N (N + 2) 3 = 0 := (CLs (by omega)).trans (by decide)
  have w2 : csC N (N + 2) = 0 := if_neg (by omega)
  have x2 : X 2 = 0 := by
    rw [z20, z21, z22, z23, w2] at g2
    simp only [Int.mul_zero, Int.mul_one, Int.zero_mul, Int.add_zero, Int.zero_add] at g2
    exact g2
  have z30 : CL F n N (N + 3) 0 = 0 := (CLs (by omega)).trans (by decide)
  have z31 : CL F n N (N + 3) 1 = 0 := (CLs (by omega)).trans (by decide)
  have z32 : CL F n N (N + 3) 2 = 0 := (CLs (by omega)).trans (by decide)
  have z33 : CL F n N (N + 3) 3 = 1 := (CLs (by omega)).trans (by decide)
  have w3 : csC N (N + 3) = 0 := if_neg (by omega)
  have x3 : X 3 = 0 := by
    rw [z30, z31, z32, z33, w3] at g3
    simp only [Int.mul_zero, Int.mul_one, Int.zero_mul, Int.add_zero, Int.zero_add] at g3
    exact g3
  have r1 := hr 1 (by omega) (by omega)
  have n1 : 1 < n := by
    by_cases q : 1 < n
    · exact q
    · exfalso
      rw [CLz (j := j0) (by omega) q, z11, z21, z31] at r1
      simp only [Int.mul_zero, Int.add_zero] at r1
      omega
  have o01 : CL F n N j0 1 = F 1 j0 := CLo (by omega) n1
  rw [o01, z11, z21, z31] at r1
  simp only [Int.mul_zero, Int.add_zero] at r1
  rw [o01, x0, x2, x3, hc1 j0 (by omega)] at g0
  simp only [Int.zero_mul, Int.one_mul, Int.add_zero, Int.zero_add] at g0
  have md : MD1 F (pf4 1 0 0 0) (pf4 j0 0 0 0) ≠ 0 := by
    intro q
    unfold MD1 at q
    simp only [pf4_0, pf4_1, pf4_2, pf4_3] at q
    refine hd ?_
    unfold D4
    rw [o01, z10, z11, z12, z13, z20, z21, z22, z23, z30, z31, z32, z33]
    clear hr hX hc hK hd r1 g0 g1 g2 g3
    grind
  refine good_1 hK (c0 := 1) (by omega) hj (by omega) (hX 1 (by omega) (by omega)) r1 g0 (fun c c0 c1 => ?_) (fun r r0 r1 => ?_) md
  · have h1 := hr c c0 (by omega)
    rw [CLo (j := j0) (by omega) c1] at h1
    have p1 := Int.mul_nonneg q1 (CLnn (F := F) (n := n) (N := N) (s := 0) (i := c) (by omega))
    have p2 := Int.mul_nonneg q2 (CLnn (F := F) (n := n) (N := N) (s := 2) (i := c) (by omega))
    have p3 := Int.mul_nonneg q3 (CLnn (F := F) (n := n) (N := N) (s := 3) (i := c) (by omega))
    omega
  · have h1 := hc r r0 r1
    rw [CLo (j := r) r1 n1, x0, x2, x3] at h1
    simp only [Int.zero_mul, Int.add_zero, Int.zero_add] at h1
    exact h1
theorem ker_1_123 {F : Int → Int → Int} {n N j0 : Int} (n4 : n ≤ 4) (hj : 0 ≤ j0 ∧ j0 < N) (h : PT F n N j0 (N + 1) (N + 2) (N + 3)) : ∃ k cp rp, (1 ≤ k ∧ k ≤ n) ∧ Pk k n cp ∧ Pk k N rp ∧ Good F n N k cp rp := by
  obtain ⟨_, hd, K, y0, y1, y2, y3, X, hK, ⟨q0, q1, q2, q3⟩, hr, hX, ⟨g0, g1, g2, g3⟩, hc⟩ := h
  have hc1 : ∀ j, j < N → csC N j = 1 := fun j h => if_pos h
  have z10 : CL F n N (N + 1) 0 = 0 := (CLs (by omega)).trans (by decide)
  have z11 : CL F n N (N + 1) 1 = 1 := (CLs (by omega)).trans (by decide)
  have z12 : CL F n N (N + 1) 2 = 0 := (CLs (by omega)).trans (by decide)
  have z13 : CL F n N (N + 1) 3 = 0 := (CLs (by omega)).trans (by decide)
  have w1 : csC N (N + 1) = 0 := if_neg (by omega)
  have x1 : X 1 = 0 := by
    rw [z10, z11, z12, z13, w1] at g1
    simp only [Int.mul_zero, Int.mul_one, Int.zero_mul, Int.add_zero, Int.zero_add] at g1
    exact g1
  have z20 : CL F n N (N + 2) 0 = 0 := (CLs (by omega)).trans (by decide)
  have z21 : CL F n N (N + 2) 1 = 0 := (CLs (by omega)).trans (by decide)
  have z22 : CL F n N (N + 2) 2 = 1 := (CLs (by omega)).trans (by decide)
  have z23 : CL F n N (N + 2) 3 = 0 := (CLs (by omega)).trans (by decide)
  have w2 : csC N (N + 2) = 0 := if_neg (by omega)
  have x2 : X 2 = 0 := by
    rw [z20, z21, z22, z23, w2] at g2
    simp only [Int.mul_zero, Int.mul_one, Int.zero_mul, Int.add_zero, Int.zero_add] at g2
    exact g2
  have z30 : CL F n N (N + 3) 0 = 0 := (CLs (by omega)).trans (by decide)
  have z31 : CL F n N (N + 3) 1 = 0 := (CLs (by omega)).trans (by decide)
  have z32 : CL F n N (N + 3) 2 = 0 := (CLs (by omega)).trans (by decide)
  have z33 : CL F n N (N + 3) 3 = 1 := (CLs (by omega)).trans (by decide)
  have w3 : csC N (N + 3) = 0 := if_neg (by omega)
  have x3 : X 3 = 0 := by
    rw [z30, z31, z32, z33, w3] at g3
    simp only [Int.mul_zero, Int.mul_one, Int.zero_mul, Int.add_zero, Int.zero_add] at g3
    exact g3
  have r0 := hr 0 (by omega) (by omega)
  have n0 : 0 < n := by
    by_cases q : 0 < n
    · exact q
    · exfalso
      rw [CLz (j := j0) (by omega) q, z10, z20, z30] at r0
      simp only [Int.mul_zero, Int.add_zero] at r0
      omega
  have o00 : CL F n N j0 0 = F 0 j0 := CLo (by omega) n0
  rw [o00, z10, z20, z30] at r0
  simp only [Int.mul_zero, Int.add_zero] at r0
  rw [o00, x1, x2, x3, hc1 j0 (by omega)] at g0
  simp only [Int.zero_mul, Int.one_mul, Int.add_zero, Int.zero_add] at g0
  have md : MD1 F (pf4 0 0 0 0) (pf4 j0 0 0 0) ≠ 0 := by
    intro q
    unfold MD1 at q
    simp only [pf4_0, pf4_1, pf4_2, pf4_3] at q
    refine hd ?_
    unfold D4
    rw [o00, z10, z11, z12, z13, z20, z21, z22, z23, z30, z31, z32, z33]
    clear hr hX hc hK hd r0 g0 g1 g2 g3
    grind
  refine good_1 hK (c0 := 0) (by omega) hj (by omega) (hX 0 (by omega) (by omega)) r0 g0 (fun c c0 c1 => ?_) (fun r r0 r1 => ?_) md
  · have h1 := hr c c0 (by omega)
    rw [CLo (j := j0) (by omega) c1] at h1
    have p1 := Int.mul_nonneg q1 (CLnn (F := F) (n := n) (N := N) (s := 1) (i := c) (by omega))
    have p2 := Int.mul_nonneg q2 (CLnn (F := F) (n := n) (N := N) (s := 2) (i := c) (by omega))
    have p3 := Int.mul_nonneg q3 (CLnn (F := F) (n := n) (N := N) (s := 3) (i := c) (by omega))
    omega
  · have h1 := hc r r0 r1
    rw [CLo (j := r) r1 n0, x1, x2, x3] at h1
    simp only [Int.zero_mul, Int.add_zero, Int.zero_add] at h1
    exact h1
theorem ker_2_01 {F : Int → Int → Int} {n N j0 j1 : Int} (n4 : n ≤ 4) (hj : 0 ≤ j0 ∧ j0 < j1 ∧ j1 < N) (h : PT F n N j0 j1 (N + 0) (N + 1)) : ∃ k cp rp, (1 ≤ k ∧ k ≤ n) ∧ Pk k n cp ∧ Pk k N rp ∧ Good F n N k cp rp := by
  obtain ⟨_, hd, K, y0, y1, y2, y3, X, hK, ⟨q0, q1, q2, q3⟩, hr, hX, ⟨g0, g1, g2, g3⟩, hc⟩ := h
  have hc1 : ∀ j, j < N → csC N j = 1 := fun j h => if_pos h
  have z20 : CL F n N (N + 0) 0 = 1 := (CLs (by omega)).trans (by decide)
  have z21 : CL F n N (N + 0) 1 = 0 := (CLs (by omega)).trans (by decide)
  have z22 : CL F n N (N + 0) 2 = 0 := (CLs (by omega)).trans (by decide)
  have z23 : CL F n N (N + 0) 3 = 0 := (CLs (by omega)).trans (by decide)
  have w2 : csC N (N + 0) = 0 := if_neg (by omega)
  have x0 : X 0 = 0 := by
    rw [z20, z21, z22, z23, w2] at g2
    simp only [Int.mul_zero, Int.mul_one, Int.zero_mul, Int.add_zero, Int.zero_add] at g2
    exact g2
  have z30 : CL F n N (N + 1) 0 = 0 := (CLs (by omega)).trans (by decide)
  have z31 : CL F n N (N + 1) 1 = 1 := (CLs (by omega)).trans (by decide)
  have z32 : CL F n N (N + 1) 2 = 0 := (CLs (by omega)).trans (by decide)
  have z33 : CL F n N (N + 1) 3 = 0 := (CLs (by omega)).trans (by decide)
  have w3 : csC N (N + 1) = 0 := if_neg (by omega)
  have x1 : X 1 = 0 := by
    rw [z30, z31, z32, z33, w3] at g3
    simp only [Int.mul_zero, Int.mul_one, Int.zero_mul, Int.add_zero, Int.zero_add] at g3
    exact g3
  have r2 := hr 2 (by omega) (by omega)
  have n2 : 2 < n := by
    by_cases q : 2 < n
    · exact q
    · exfalso
      rw [CLz (j := j0) (by omega) q, CLz (j := j1) (by omega) q, z22, z32] at r2
      simp only [Int.mul_zero, Int.add_zero] at r2
      omega
  have r3 := hr 3 (by omega) (by omega)
  have n3 : 3 < n := by
    by_cases q : 3 < n
    · exact q
    · exfalso
      rw [CLz (j := j0) (by omega) q, CLz (j := j1) (by omega) q, z23, z33] at r3
      simp only [Int.mul_zero, Int.add_zero] at r3
      omega
  have o02 : CL F n N j0 2 = F 2 j0 := CLo (by omega) n2
  have o03 : CL F n N j0 3 = F 3 j0 := CLo (by omega) n3
  have o12 : CL F n N j1 2 = F 2 j1 := CLo (by omega) n2
  have o13 : CL F n N j1 3 = F 3 j1 := CLo (by omega) n3
  rw [o02, o12, z22, z32] at r2
  simp only [Int.mul_zero, Int.add_zero] at r2
  rw [o03, o13, z23, z33] at r3
  simp only [Int.mul_zero, Int.add_zero] at r3
  rw [o02, o03, x0, x1, hc1 j0 (by omega)] at g0
  simp only [Int.zero_mul, Int.one_mul, Int.add_zero, Int.zero_add] at g0
  rw [o12, o13, x0, x1, hc1 j1 (by omega)] at g1
  simp only [Int.zero_mul, Int.one_mul, Int.add_zero, Int.zero_add] at g1
  have md : MD2 F (pf4 2 3 0 0) (pf4 j0 j1 0 0) ≠ 0 := by
    intro q
    unfold MD2 at q
    simp only [pf4_0, pf4_1, pf4_2, pf4_3] at q
    refine hd ?_
    unfold D4
    rw [o02, o03, o12, o13, z20, z21, z22, z23, z30, z31, z32, z33]
    clear hr hX hc hK hd r2 r3 g0 g1 g2 g3
    grind
  refine good_2 hK (c0 := 2) (c1 := 3) (by omega) hj (by omega) ⟨hX 2 (by omega) (by omega), hX 3 (by omega) (by omega)⟩ r2 r3 g0 g1 (fun c c0 c1 => ?_) (fun r r0 r1 => ?_) md
  · have h1 := hr c c0 (by omega)
    rw [CLo (j := j0) (by omega) c1, CLo (j := j1) (by omega) c1] at h1
    have p2 := Int.mul_nonneg q2 (CLnn (F := F) (n := n) (N := N) (s := 0) (i := c) (by omega))
    have p3 := Int.mul_nonneg q3 (CLnn (F := F) (n := n) (N := N) (s := 1) (i := c) (by omega))
    omega
  · have h1 := hc r r0 r1
    rw [CLo (j := r) r1 n2, CLo (j := r) r1 n3, x0, x1] at h1
    simp only [Int.zero_mul, Int.add_zero, Int.zero_add] at h1
    exact h1
theorem ker_2_02 {F : Int → Int → Int} {n N j0 j1 : Int} (n4 : n ≤ 4) (hj : 0 ≤ j0 ∧ j0 < j1 ∧ j1 < N) (h : PT F n N j0 j1 (N + 0) (N + 2)) : ∃ k cp rp, (1 ≤ k ∧ k ≤ n) ∧ Pk k n cp ∧ Pk k N rp ∧ Good F n N k cp rp := by
  obtain ⟨_, hd, K, y0, y1, y2, y3, X, hK, ⟨q0, q1, q2, q3⟩, hr, hX, ⟨g0, g1, g2, g3⟩, hc⟩ := h
  have hc1 : ∀ j, j < N → csC N j = 1 := fun j h => if_pos h
  have z20 : CL F n N (N + 0) 0 = 1 := (CLs (by omega)).trans (by decide)
  have z21 : CL F n N (N + 0) 1 = 0 := (CLs (by omega)).trans (by decide)
  have z22 : CL F n N (N + 0) 2 = 0 := (CLs (by omega)).trans (by decide)
  have z23 : CL F n N (N + 0) 3 = 0 := (CLs (by omega)).trans (by decide)
  have w2 : csC N (N + 0) = 0 := if_neg (by omega)
  have x0 : X 0 = 0 := by
    rw [z20, z21, z22, z23, w2] at g2
    simp only [Int.mul_zero, Int.mul_one, Int.zero_mul, Int.add_zero, Int.zero_add] at g2
    exact g2
  have z30 : CL F n N (N + 2) 0 = 0 := (CLs (by omega)).trans (by decide)
  have z31 : CL F n N (N + 2) 1 = 0 := (CLs (by omega)).trans (by decide)
  have z32 : CL F n N (N + 2) 2 = 1 := (CLs (by omega)).trans (by decide)
  have z33 : CL F n N (N + 2) 3 = 0 := (CLs (by omega)).trans (by decide)
  have w3 : csC N (N + 2) = 0 := if_neg (by omega)
  have x2 : X 2 = 0 := by
    rw [z30, z31, z32, z33, w3] at g3
    simp only [Int.mul_zero, Int.mul_one, Int.zero_mul, Int.add_zero, Int.zero_add] at g3
    exact g3
  have r1 := hr 1 (by omega) (by omega)
  have n1 : 1 < n := by
    by_cases q : 1 < n
    · exact q
    · exfalso
      rw [CLz (j := j0) (by omega) q, CLz (j := j1) (by omega) q, z21, z31] at r1
      simp only [Int.mul_zero, Int.add_zero] at r1
      omega
  have r3 := hr 3 (by omega) (by omega)
  have n3 : 3 < n := by
    by_cases q : 3 < n
    · exact q
    · exfalso
      rw [CLz (j := j0) (by omega) q, CLz (j := j1) (by omega) q, z23, z33] at r3
      simp only [Int.mul_zero, Int.add_zero] at r3
      omega
  have o01 : CL F n N j0 1 = F 1 j0 := CLo (by omega) n1
  have o03 : CL F n N j0 3 = F 3 j0 := CLo (by omega) n3
  have o11 : CL F n N j1 1 = F 1 j1 := CLo (by omega) n1
  have o13 : CL F n N j1 3 = F 3 j1 := CLo (by omega) n3
  rw [o01, o11, z21, z31] at r1
  simp only [Int.mul_zero, Int.add_zero] at r1
  rw [o03, o13, z23, z33] at r3
  simp only [Int.mul_zero, Int.add_zero] at r3
  rw [o01, o03, x0, x2, hc1 j0 (by omega)] at g0
  simp only [Int.zero_mul, Int.one_mul, Int.add_zero, Int.zero_add] at g0
  rw [o11, o13, x0, x2, hc1 j1 (by omega)] at g1
  simp only [Int.zero_mul, Int.one_mul, Int.add_zero, Int.zero_add] at g1
  have md : MD2 F (pf4 1 3 0 0) (pf4 j0 j1 0 0) ≠ 0 := by
    intro q
    unfold MD2 at q
    simp only [pf4_0, pf4_1, pf4_2, pf4_3] at q
    refine hd ?_
    unfold D4
    rw [o01, o03, o11, o13, z20, z21, z22, z23, z30, z31, z32, z33]
    clear hr hX hc hK hd r1 r3 g0 g1 g2 g3
    grind
  refine good_2 hK (c0 := 1) (c1 := 3) (by omega) hj (by omega) ⟨hX 1 (by omega) (by omega), hX 3 (by omega) (by omega)⟩ r1 r3 g0 g1 (fun c c0 c1 => ?_) (fun r r0 r1 => ?_) md
  · have h1 := hr c c0 (by omega)
    rw [CLo (j := j0) (by omega) c1, CLo (j := j1) (by omega) c1] at h1
    have p2 := Int.mul_nonneg q2 (CLnn (F := F) (n := n) (N := N) (s := 0) (i := c) (by omega))
    have p3 := Int.mul_nonneg q3 (CLnn (F := F) (n := n) (N := N) (s := 2) (i := c) (by omega))
    omega
  · have h1 := hc r r0 r1
    rw [CLo (j := r) r1 n1, CLo (j := r) r1 n3, x0, x2] at h1
    simp only [Int.zero_mul, Int.add_zero, Int.zero_add] at h1
    exact h1
theorem ker_2_03 {F : Int → Int → Int} {n N j0 j1 : Int} (n4 : n ≤ 4) (hj : 0 ≤ j0 ∧ j0 < j1 ∧ j1 < N) (h : PT F n N j0 j1 (N + 0) (N + 3)) : ∃ k cp rp, (1 ≤ k ∧ k ≤ n) ∧ Pk k n cp ∧ Pk k N rp ∧ Good F n N k cp rp := by
  obtain ⟨_, hd, K, y0, y1, y2, y3, X, hK, ⟨q0, q1, q2, q3⟩, hr, hX, ⟨g0, g1, g2, g3⟩, hc⟩ := h
  have hc1 : ∀ j, j < N → csC N j = 1 := fun j h => if_pos h
  have z20 : CL F n N (N + 0) 0 = 1 := (CLs (by omega)).trans (by decide)
  have z21 : CL F n N (N + 0) 1 = 0 := (CLs (by omega)).trans (by decide)
  have z22 : CL F n N (N + 0) 2 = 0 := (CLs (by omega)).trans (by decide)
  have z23 : CL F n N (N + 0) 3 = 0 := (CLs (by omega)).trans (by decide)
  have w2 : csC N (N + 0) = 0 := if_neg (by omega)
  have x0 : X 0 = 0 := by
    rw [z20, z21, z22, z23, w2] at g2
    simp only [Int.mul_zero, Int.mul_one, Int.zero_mul, Int.add_zero, Int.zero_add] at g2
    exact g2
  have z30 : CL F n N (N + 3) 0 = 0 := (CLs (by omega)).trans (by decide)
  have z31 : CL F n N (N + 3) 1 = 0 := (CLs (by omega)).trans (by decide)
  have z32 : CL F n N (N + 3) 2 = 0 := (CLs (by omega)).trans (by decide)
  have z33 : CL F n N (N + 3) 3 = 1 := (CLs (by omega)).trans (by decide)
  have w3 : csC N (N + 3) = 0 := if_neg (by omega)
  have x3 : X 3 = 0 := by
    rw [z30, z31, z32, z33, w3] at g3
    simp only [Int.mul_zero, Int.mul_one, Int.zero_mul, Int.add_zero, Int.zero_add] at g3
    exact g3
  have r1 := hr 1 (by omega) (by omega)
  have n1 : 1 < n := by
    by_cases q : 1 < n
    · exact q
    · exfalso
      rw [CLz (j := j0) (by omega) q, CLz (j := j1) (by omega) q, z21, z31] at r1
      simp only [Int.mul_zero, Int.add_zero] at r1
      omega
  have r2 := hr 2 (by omega) (by omega)
  have n2 : 2 < n := by
    by_cases q : 2 < n
    · exact q
    · exfalso
      rw [CLz (j := j0) (by omega) q, CLz (j := j1) (by omega) q, z22, z32] at r2
      simp only [Int.mul_zero, Int.add_zero] at r2
      omega
  have o01 : CL F n N j0 1 = F 1 j0 := CLo (by omega) n1
  have o02 : CL F n N j0 2 = F 2 j0 := CLo (by omega) n2
  have o11 : CL F n N j1 1 = F 1 j1 := CLo (by omega) n1
  have o12 : CL F n N j1 2 = F 2 j1 := CLo (by omega) n2
  rw [o01, o11, z21, z31] at r1
  simp only [Int.mul_zero, Int.add_zero] at r1
  rw [o02, o12, z22, z32] at r2
  simp only [Int.mul_zero, Int.add_zero] at r2
  rw [o01, o02, x0, x3, hc1 j0 (by omega)] at g0
  simp only [Int.zero_mul, Int.one_mul, Int.add_zero, Int.zero_add] at g0
  rw [o11, o12, x0, x3, hc1 j1 (by omega)] at g1
  simp only [Int.zero_mul, Int.one_mul, Int.add_zero, Int.zero_add] at g1
  have md : MD2 F (pf4 1 2 0 0) (pf4 j0 j1 0 0) ≠ 0 := by
    intro q
    unfold MD2 at q
    simp only [pf4_0, pf4_1, pf4_2, pf4_3] at q
    refine hd ?_
    unfold D4
    rw [o01, o02, o11, o12, z20, z21, z22, z23, z30, z31, z32, z33]
    clear hr hX hc hK hd r1 r2 g0 g1 g2 g3
    grind
  refine good_2 hK (c0 := 1) (c1 := 2) (by omega) hj (by omega) ⟨hX 1 (by omega) (by omega), hX 2 (by omega) (by omega)⟩ r1 r2 g0 g1 (fun c c0 c1 => ?_) (fun r r0 r1 => ?_) md
  · have h1 := hr c c0 (by omega)
    rw [CLo (j := j0) (by omega) c1, CLo (j := j1) (by omega) c1] at h1
    have p2 := Int.mul_nonneg q2 (CLnn (F := F) (n := n) (N := N) (s := 0) (i := c) (by omega))
    have p3 := Int.mul_nonneg q3 (CLnn (F := F) (n := n) (N := N) (s := 3) (i := c) (by omega))
    omega
  · have h1 := hc r r0 r1
    rw [CLo (j := r) r1 n1, CLo (j := r) r1 n2, x0, x3] at h1
    simp only [Int.zero_mul, Int.add_zero, Int.zero_add] at h1
    exact h1
theorem ker_2_12 {F : Int → Int → Int} {n N j0 j1 : Int} (n4 : n ≤ 4) (hj : 0 ≤ j0 ∧ j0 < j1 ∧ j1 < N) (h : PT F n N j0 j1 (N + 1) (N + 2)) : ∃ k cp rp, (1 ≤ k ∧ k ≤ n) ∧ Pk k n cp ∧ Pk k N rp ∧ Good F n N k cp rp := by
  obtain ⟨_, hd, K, y0, y1, y2, y3, X, hK, ⟨q0, q1, q2, q3⟩, hr, hX, ⟨g0, g1, g2, g3⟩, hc⟩ := h
  have hc1 : ∀ j, j < N → csC N j = 1 := fun j h => if_pos h
  have z20 : CL F n N (N + 1) 0 = 0 := (CLs (by omega)).trans (by decide)
  have z21 : CL F n N (N + 1) 1 = 1 := (CLs (by omega)).trans (by decide)
  have z22 : CL F n N (N + 1) 2 = 0 := (CLs (by omega)).trans (by decide)
  have z23 : CL F n N (N + 1) 3 = 0 := (CLs (by omega)).trans (by decide)
  have w2 : csC N (N + 1) = 0 := if_neg (by omega)
  have x1 : X 1 = 0 := by
    rw [z20, z21, z22, z23, w2] at g2
    simp only [Int.mul_zero, Int.mul_one, Int.zero_mul, Int.add_zero, Int.zero_add] at g2
    exact g2
  have z30 : CL F n N (N + 2) 0 = 0 := (CLs (by omega)).trans (by decide)
  have z31 : CL F n N (N + 2) 1 = 0 := (CLs (by omega)).trans (by decide)
  have z32 : CL F n N (N + 2) 2 = 1 := (CLs (by omega)).trans (by decide)
  have z33 : CL F n N (N + 2) 3 = 0 := (CLs (by omega)).trans (by decide)
  have w3 : csC N (N + 2) = 0 := if_neg (by omega)
  have x2 : X 2 = 0 := by
    rw [z30, z31, z32, z33, w3] at g3
    simp only [Int.mul_zero, Int.mul_one, Int.zero_mul, Int.add_zero, Int.zero_add] at g3
    exact g3
  have r0 := hr 0 (by omega) (by omega)
  have n0 : 0 < n := by
    by_cases q : 0 < n
    · exact q
    · exfalso
      rw [CLz (j := j0) (by omega) q, CLz (j := j1) (by omega) q, z20, z30] at r0
      simp only [Int.mul_zero, Int.add_zero] at r0
      omega
  have r3 := hr 3 (by omega) (by omega)
  have n3 : 3 < n := by
    by_cases q : 3 < n
    · exact q
    · exfalso
      rw [CLz (j := j0) (by omega) q, CLz (j := j1) (by omega) q, z23, z33] at r3
      simp only [Int.mul_zero, Int.add_zero] at r3
      omega
  have o00 : CL F n N j0 0 = F 0 j0 := CLo (by omega) n0
  have o03 : CL F n N j0 3 = F 3 j0 := CLo (by omega) n3
  have o10 : CL F n N j1 0 = F 0 j1 := CLo (by omega) n0
  have o13 : CL F n N j1 3 = F 3 j1 := CLo (by omega) n3
  rw [o00, o10, z20, z30] at r0
  simp only [Int.mul_zero, Int.add_zero] at r0
  rw [o03, o13, z23, z33] at r3
  simp only [Int.mul_zero, Int.add_zero] at r3
  rw [o00, o03, x1, x2, hc1 j0 (by omega)] at g0
  simp only [Int.zero_mul, Int.one_mul, Int.add_zero, Int.zero_add] at g0
  rw [o10, o13, x1, x2, hc1 j1 (by omega)] at g1
  simp only [Int.zero_mul, Int.one_mul, Int.add_zero, Int.zero_add] at g1
  have md : MD2 F (pf4 0 3 0 0) (pf4 j0 j1 0 0) ≠ 0 := by
    intro q
    unfold MD2 at q
    simp only [pf4_0, pf4_1, pf4_2, pf4_3] at q
    refine hd ?_
    unfold D4
    rw [o00, o03, o10, o13, z20, z21, z22, z23, z30, z31, z32, z33]
    clear hr hX hc hK hd r0 r3 g0 g1 g2 g3
    grind
  refine good_2 hK (c0 := 0) (c1 := 3) (by omega) hj (by omega) ⟨hX 0 (by omega) (by omega), hX 3 (by omega) (by omega)⟩ r0 r3 g0 g1 (fun c c0 c1 => ?_) (fun r r0 r1 => ?_) md
  · have h1 := hr c c0 (by omega)
    rw [CLo (j := j0) (by omega) c1, CLo (j := j1) (by omega) c1] at h1
    have p2 := Int.mul_nonneg q2 (CLnn (F := F) (n := n) (N := N) (s := 1) (i := c) (by omega))
    have p3 := Int.mul_nonneg q3 (CLnn (F := F) (n := n) (N := N) (s := 2) (i := c) (by omega))
    omega
  · have h1 := hc r r0 r1
    rw [CLo (j := r) r1 n0, CLo (j := r) r1 n3, x1, x2] at h1
    simp only [Int.zero_mul, Int.add_zero, Int.zero_add] at h1
    exact h1
theorem ker_2_13 {F : Int → Int → Int} {n N j0 j1 : Int} (n4 : n ≤ 4) (hj : 0 ≤ j0 ∧ j0 < j1 ∧ j1 < N) (h : PT F n N j0 j1 (N + 1) (N + 3)) : ∃ k cp rp, (1 ≤ k ∧ k ≤ n) ∧ Pk k n cp ∧ Pk k N rp ∧ Good F n N k cp rp := by
  obtain ⟨_, hd, K, y0, y1, y2, y3, X, hK, ⟨q0, q1, q2, q3⟩, hr, hX, ⟨g0, g1, g2, g3⟩, hc⟩ := h
  have hc1 : ∀ j, j < N → csC N j = 1 := fun j h => if_pos h
  have z20 : CL F n N (N + 1) 0 = 0 := (CLs (by omega)).trans (by decide)
  have z21 : CL F n N (N + 1) 1 = 1 := (CLs (by omega)).trans (by decide)
  have z22 : CL F n N (N + 1) 2 = 0 := (CLs (by omega)).trans (by decide)
  have z23 : CL F n N (N + 1) 3 = 0 := (CLs (by omega)).trans (by decide)
  have w2 : csC N (N + 1) = 0 := if_neg (by omega)
  have x1 : X 1 = 0 := by
    rw [z20, z21, z22, z23, w2] at g2
    simp only [Int.mul_zero, Int.mul_one, Int.zero_mul, Int.add_zero, Int.zero_add] at g2
    exact g2
  have z30 : CL F n N (N + 3) 0 = 0 := (CLs (by omega)).trans (by decide)
  have z31 : CL F n N (N + 3) 1 = 0 := (CLs (by omega)).trans (by decide)
  have z32 : CL F n N (N + 3) 2 = 0 := (CLs (by omega)).trans (by decide)
  have z33 : CL F n N (N + 3) 3 = 1 := (CLs (by omega)).trans (by decide)
  have w3 : csC N (N + 3) = 0 := if_neg (by omega)
  have x3 : X 3 = 0 := by
    rw [z30, z31, z32, z33, w3] at g3
    simp only [Int.mul_zero, Int.mul_one, Int.zero_mul, Int.add_zero, Int.zero_add] at g3
    exact g3
  have r0 := hr 0 (by omega) (by omega)
  have n0 : 0 < n := by
    by_cases q : 0 < n
    · exact q
    · exfalso
      rw [CLz (j := j0) (by omega) q, CLz (j := j1) (by omega) q, z20, z30] at r0
      simp only [Int.mul_zero, Int.add_zero] at r0
      omega
  have r2 := hr 2 (by omega) (by omega)
  have n2 : 2 < n := by
    by_cases q : 2 < n
    · exact q
    · exfalso
      rw [CLz (j := j0) (by omega) q, CLz (j := j1) (by omega) q, z22, z32] at r2
      simp only [Int.mul_zero, Int.add_zero] at r2
      omega
  have o00 : CL F n N j0 0 = F 0 j0 := CLo (by omega) n0
  have o02 : CL F n N j0 2 = F 2 j0 := CLo (by omega) n2
  have o10 : CL F n N j1 0 = F 0 j1 := CLo (by omega) n0
  have o12 : CL F n N j1 2 = F 2 j1 := CLo (by omega) n2
  rw [o00, o10, z20, z30] at r0
  simp only [Int.mul_zero, Int.add_zero] at r0
  rw [o02, o12, z22, z32] at r2
  simp only [Int.mul_zero, Int.add_zero] at r2
  rw [o00, o02, x1, x3, hc1 j0 (by omega)] at g0
  simp only [Int.zero_mul, Int.one_mul, Int.add_zero, Int.zero_add] at g0
  rw [o10, o12, x1, x3, hc1 j1 (by omega)] at g1
  simp only [Int.zero_mul, Int.one_mul, Int.add_zero, Int.zero_add] at g1
  have md : MD2 F (pf4 0 2 0 0) (pf4 j0 j1 0 0) ≠ 0 := by
    intro q
    unfold MD2 at q
    simp only [pf4_0, pf4_1, pf4_2, pf4_3] at q
    refine hd ?_
    unfold D4
    rw [o00, o02, o10, o12, z20, z21, z22, z23, z30, z31, z32, z33]
    clear hr hX hc hK hd r0 r2 g0 g1 g2 g3
    grind
  refine good_2 hK (c0 := 0) (c1 := 2) (by omega) hj (by omega) ⟨hX 0 (by omega) (by omega), hX 2 (by omega) (by omega)⟩ r0 r2 g0 g1 (fun c c0 c1 => ?_) (fun r r0 r1 => ?_) md
  · have h1 := hr c c0 (by omega)
    rw [CLo (j := j0) (by omega) c1, CLo (j := j1) (by omega) c1] at h1
    have p2 := Int.mul_nonneg q2 (CLnn (F := F) (n := n) (N := N) (s := 1) (i := c) (by omega))
    have p3 := Int.mul_nonneg q3 (CLnn (F := F) (n := n) (N := N) (s := 3) (i := c) (by omega))
    omega
  · have h1 := hc r r0 r1
    rw [CLo (j := r) r1 n0, CLo (j := r) r1 n2, x1, x3] at h1
    simp only [Int.zero_mul, Int.add_zero, Int.zero_add] at h1
    exact h1
theorem ker_2_23 {F : Int → Int → Int} {n N j0 j1 : Int} (n4 : n ≤ 4) (hj : 0 ≤ j0 ∧ j0 < j1 ∧ j1 < N) (h : PT F n N j0 j1 (N + 2) (N + 3)) : ∃ k cp rp, (1 ≤ k ∧ k ≤ n) ∧ Pk k n cp ∧ Pk k N rp ∧ Good F n N k cp rp := by
  obtain ⟨_, hd, K, y0, y1, y2, y3, X, hK, ⟨q0, q1, q2, q3⟩, hr, hX, ⟨g0, g1, g2, g3⟩, hc⟩ := h
  have hc1 : ∀ j, j < N → csC N j = 1 := fun j h => if_pos h
  have z20 : CL F n N (N + 2) 0 = 0 := (CLs (by omega)).trans (by decide)
  have z21 : CL F n N (N + 2) 1 = 0 := (CLs (by omega)).trans (by decide)
  have z22 : CL F n N (N + 2) 2 = 1 := (CLs (by omega)).trans (by decide)
  have z23 : CL F n N (N + 2) 3 = 0 := (CLs (by omega)).trans (by decide)
  have w2 : csC N (N + 2) = 0 := if_neg (by omega)
  have x2 : X 2 = 0 := by
    rw [z20, z21, z22, z23, w2] at g2
    simp only [Int.mul_zero, Int.mul_one, Int.zero_mul, Int.add_zero, Int.zero_add] at g2
    exact g2
  have z30 : CL F n N (N + 3) 0 = 0 := (CLs (by omega)).trans (by decide)
  have z31 : CL F n N (N + 3) 1 = 0 := (CLs (by omega)).trans (by decide)
  have z32 : CL F n N (N + 3) 2 = 0 := (CLs (by omega)).trans (by decide)
  have z33 : CL F n N (N + 3) 3 = 1 := (CLs (by omega)).trans (by decide)
  have w3 : csC N (N + 3) = 0 := if_neg (by omega)
  have x3 : X 3 = 0 := by
    rw [z30, z31, z32, z33, w3] at g3
    simp only [Int.mul_zero, Int.mul_one, Int.zero_mul, Int.add_zero, Int.zero_add] at g3
    exact g3
  have r0 := hr 0 (by omega) (by omega)
  have n0 : 0 < n := by
    by_cases q : 0 < n
    · exact q
    · exfalso
      rw [CLz (j := j0) (by omega) q, CLz (j := j1) (by omega) q, z20, z30] at r0
      simp only [Int.mul_zero, Int.add_zero] at r0
      omega
  have r1 := hr 1 (by omega) (by omega)
  have n1 : 1 < n := by
    by_cases q : 1 < n
    · exact q
    · exfalso
      rw [CLz (j := j0) (by omega) q, CLz (j := j1) (by omega) q, z21, z31] at r1
      simp only [Int.mul_zero, Int.add_zero] at r1
      omega
  have o00 : CL F n N j0 0 = F 0 j0 := CLo (by omega) n0
  have o01 : CL F n N j0 1 = F 1 j0 := CLo (by omega) n1
  have o10 : CL F n N j1 0 = F 0 j1 := CLo (by omega) n0
  have o11 : CL F n N j1 1 = F 1 j1 := CLo (by omega) n1
  rw [o00, o10, z20, z30] at r0
  simp only [Int.mul_zero, Int.add_zero] at r0
  rw [o01, o11, z21, z31] at r1
  simp only [Int.mul_zero, Int.add_zero] at r1
  rw [o00, o01, x2, x3, hc1 j0 (by omega)] at g0
  simp only [Int.zero_mul, Int.one_mul, Int.add_zero, Int.zero_add] at g0
  rw [o10, o11, x2, x3, hc1 j1 (by omega)] at g1
  simp only [Int.zero_mul, Int.one_mul, Int.add_zero, Int.zero_add] at g1
  have md : MD2 F (pf4 0 1 0 0) (pf4 j0 j1 0 0) ≠ 0 := by
    intro q
    unfold MD2 at q
    simp only [pf4_0, pf4_1, pf4_2, pf4_3] at q
    refine hd ?_
    unfold D4
    rw [o00, o01, o10, o11, z20, z21, z22, z23, z30, z31, z32, z33]
    clear hr hX hc hK hd r0 r1 g0 g1 g2 g3
    grind
  refine good_2 hK (c0 := 0) (c1 := 1) (by omega) hj (by omega) ⟨hX 0 (by omega) (by omega), hX 1 (by omega) (by omega)⟩ r0 r1 g0 g1 (fun c c0 c1 => ?_) (fun r r0 r1 => ?_) md
  · have h1 := hr c c0 (by omega)
    rw [CLo (j := j0) (by omega) c1, CLo (j := j1) (by omega) c1] at h1
    have p2 := Int.mul_nonneg q2 (CLnn (F := F) (n := n) (N := N) (s := 2) (i := c) (by omega))
    have p3 := Int.mul_nonneg q3 (CLnn (F := F) (n := n) (N := N) (s := 3) (i := c) (by omega))
    omega
  · have h1 := hc r r0 r1
    rw [CLo (j := r) r1 n0, CLo (j := r) r1 n1, x2, x3] at h1
    simp only [Int.zero_mul, Int.add_zero, Int.zero_add] at h1
    exact h1
theorem ker_3_0 {F : Int → Int → Int} {n N j0 j1 j2 : Int} (n4 : n ≤ 4) (hj : 0 ≤ j0 ∧ j0 < j1 ∧ j1 < j2 ∧ j2 < N) (h : PT F n N j0 j1 j2 (N + 0)) : ∃ k cp rp, (1 ≤ k ∧ k ≤ n) ∧ Pk k n cp ∧ Pk k N rp ∧ Good F n N k cp rp := by
  obtain ⟨_, hd, K, y0, y1, y2, y3, X, hK, ⟨q0, q1, q2, q3⟩, hr, hX, ⟨g0, g1, g2, g3⟩, hc⟩ := h
  have hc1 : ∀ j, j < N → csC N j = 1 := fun j h => if_pos h
  have z30 : CL F n N (N + 0) 0 = 1 := (CLs (by omega)).trans (by decide)
  have z31 : CL F n N (N + 0) 1 = 0 := (CLs (by omega)).trans (by decide)
  have z32 : CL F n N (N + 0) 2 = 0 := (CLs (by omega)).trans (by decide)
  have z33 : CL F n N (N + 0) 3 = 0 := (CLs (by omega)).trans (by decide)
  have w3 : csC N (N + 0) = 0 := if_neg (by omega)
  have x0 : X 0 = 0 := by
    rw [z30, z31, z32, z33, w3] at g3
    simp only [Int.mul_zero, Int.mul_one, Int.zero_mul, Int.add_zero, Int.zero_add] at g3
    exact g3
  have r1 := hr 1 (by omega) (by omega)
  have n1 : 1 < n := by
    by_cases q : 1 < n
    · exact q
    · exfalso
      rw [CLz (j := j0) (by omega) q, CLz (j := j1) (by omega) q, CLz (j := j2) (by omega) q, z31] at r1
      simp only [Int.mul_zero, Int.add_zero] at r1
      omega
  have r2 := hr 2 (by omega) (by omega)
  have n2 : 2 < n := by
    by_cases q : 2 < n
    · exact q
    · exfalso
      rw [CLz (j := j0) (by omega) q, CLz (j := j1) (by omega) q, CLz (j := j2) (by omega) q, z32] at r2
      simp only [Int.mul_zero, Int.add_zero] at r2
      omega
  have r3 := hr 3 (by omega) (by omega)
  have n3 : 3 < n := by
    by_cases q : 3 < n
    · exact q
    · exfalso
      rw [CLz (j := j0) (by omega) q, CLz (j := j1) (by omega) q, CLz (j := j2) (by omega) q, z33] at r3
      simp only [Int.mul_zero, Int.add_zero] at r3
      omega
  have o01 : CL F n N j0 1 = F 1 j0 := CLo (by omega) n1
  have o02 : CL F n N j0 2 = F 2 j0 := CLo (by omega) n2
  have o03 : CL F n N j0 3 = F 3 j0 := CLo (by omega) n3
  have o11 : CL F n N j1 1 = F 1 j1 := CLo (by omega) n1
  have o12 : CL F n N j1 2 = F 2 j1 := CLo (by omega) n2
  have o13 : CL F n N j1 3 = F 3 j1 := CLo (by omega) n3
  have o21 : CL F n N j2 1 = F 1 j2 := CLo (by omega) n1
  have o22 : CL F n N j2 2 = F 2 j2 := CLo (by omega) n2
  have o23 : CL F n N j2 3 = F 3 j2 := CLo (by omega) n3
  rw [o01, o11, o21, z31] at r1
  simp only [Int.mul_zero, Int.add_zero] at r1
  rw [o02, o12, o22, z32] at r2
  simp only [Int.mul_zero, Int.add_zero] at r2
  rw [o03, o13, o23, z33] at r3
  simp only [Int.mul_zero, Int.add_zero] at r3
  rw [o01, o02, o03, x0, hc1 j0 (by omega)] at g0
  simp only [Int.zero_mul, Int.one_mul, Int.add_zero, Int.zero_add] at g0
  rw [o11, o12, o13, x0, hc1 j1 (by omega)] at g1
  simp only [Int.zero_mul, Int.one_mul, Int.add_zero, Int.zero_add] at g1
  rw [o21, o22, o23, x0, hc1 j2 (by omega)] at g2
  simp only [Int.zero_mul, Int.one_mul, Int.add_zero, Int.zero_add] at g2
  have md : MD3 F (pf4 1 2 3 0) (pf4 j0 j1 j2 0) ≠ 0 := by
    intro q
    unfold MD3 at q
    simp only [pf4_0, pf4_1, pf4_2, pf4_3] at q
    refine hd ?_
    unfold D4
    rw [o01, o02, o03, o11, o12, o13, o21, o22, o23, z30, z31, z32, z33]
    clear hr hX hc hK hd r1 r2 r3 g0 g1 g2 g3
    grind
  refine good_3 hK (c0 := 1) (c1 := 2) (c2 := 3) (by omega) hj (by omega) ⟨hX 1 (by omega) (by omega), hX 2 (by omega) (by omega), hX 3 (by omega) (by omega)⟩ r1 r2 r3 g0 g1 g2 (fun c c0 c1 => ?_) (fun r r0 r1 => ?_) md
  · have h1 := hr c c0 (by omega)
    rw [CLo (j := j0) (by omega) c1, CLo (j := j1) (by omega) c1, CLo (j := j2) (by omega) c1] at h1
    have p3 := Int.mul_nonneg q3 (CLnn (F := F) (n := n) (N := N) (s := 0) (i := c) (by omega))
    omega
  · have h1 := hc r r0 r1
    rw [CLo (j := r) r1 n1, CLo (j := r) r1 n2, CLo (j := r) r1 n3, x0] at h1
    simp only [Int.zero_mul, Int.add_zero, Int.zero_add] at h1
    exact h1
theorem ker_3_1 {F : Int → Int → Int} {n N j0 j1 j2 : Int} (n4 : n ≤ 4) (hj : 0 ≤ j0 ∧ j0 < j1 ∧ j1 < j2 ∧ j2 < N) (h : PT F n N j0 j1 j2 (N + 1)) : ∃ k cp rp, (1 ≤ k ∧ k ≤ n) ∧ Pk k n cp ∧ Pk k N rp ∧ Good F n N k cp rp := by
  obtain ⟨_, hd, K, y0, y1, y2, y3, X, hK, ⟨q0, q1, q2, q3⟩, hr, hX, ⟨g0, g1, g2, g3⟩, hc⟩ := h
  have hc1 : ∀ j, j < N → csC N j = 1 := fun j h => if_pos h
  have z30 : CL F n N (N + 1) 0 = 0 := (CLs (by omega)).trans (by decide)
  have z31 : CL F n N (N + 1) 1 = 1 := (CLs (by omega)).trans (by decide)
  have z32 : CL F n N (N + 1) 2 = 0 := (CLs (by omega)).trans (by decide)
  have z33 : CL F n N (N + 1) 3 = 0 := (CLs (by omega)).trans (by decide)
  have w3 : csC N (N + 1) = 0 := if_neg (by omega)
  have x1 : X 1 = 0 := by
    rw [z30, z31, z32, z33, w3] at g3
    simp only [Int.mul_zero, Int.mul_one, Int.zero_mul, Int.add_zero, Int.zero_add] at g3
    exact g3
  have r0 := hr 0 (by omega) (by omega)
  have n0 : 0 < n := by
    by_cases q : 0 < n
    · exact q
    · exfalso
      rw [CLz (j := j0) (by omega) q, CLz (j := j1) (by omega) q, CLz (j := j2) (by omega) q, z30] at r0
      simp only [Int.mul_zero, Int.add_zero] at r0
      omega
  have r2 := hr 2 (by omega) (by omega)
  have n2 : 2 < n := by
    by_cases q : 2 < n
    · exact q
    · exfalso
      rw [CLz (j := j0) (by omega) q, CLz (j := j1) (by omega) q, CLz (j := j2) (by omega) q, z32] at r2
      simp only [Int.mul_zero, Int.add_zero] at r2
      omega
  have r3 := hr 3 (by omega) (by omega)
  have n3 : 3 < n := by
    by_cases q : 3 < n
    · exact q
    · exfalso
      rw [CLz (j := j0) (by omega) q, CLz (j := j1) (by omega) q, CLz (j := j2) (by omega) q, z33] at r3
      simp only [Int.mul_zero, Int.add_zero] at r3
      omega
  have o00 : CL F n N j0 0 = F 0 j0 := CLo (by omega) n0
  have o02 : CL F n N j0 2 = F 2 j0 := CLo (by omega) n2
  have o03 : CL F n N j0 3 = F 3 j0 := CLo (by omega) n3
  have o10 : CL F n N j1 0 = F 0 j1 := CLo (by omega) n0
  have o12 : CL F n N j1 2 = F 2 j1 := CLo (by omega) n2
  have o13 : CL F n N j1 3 = F 3 j1 := CLo (by omega) n3
  have o20 : CL F n N j2 0 = F 0 j2 := CLo (by omega) n0
  have o22 : CL F n N j2 2 = F 2 j2 := CLo (by omega) n2
  have o23 : CL F n N j2 3 = F 3 j2 := CLo (by omega) n3
  rw [o00, o10, o20, z30] at r0
  simp only [Int.mul_zero, Int.add_zero] at r0
  rw [o02, o12, o22, z32] at r2
  simp only [Int.mul_zero, Int.add_zero] at r2
  rw [o03, o13, o23, z33] at r3
  simp only [Int.mul_zero, Int.add_zero] at r3
  rw [o00, o02, o03, x1, hc1 j0 (by omega)] at g0
  simp only [Int.zero_mul, Int.one_mul, Int.add_zero, Int.zero_add] at g0
  rw [o10, o12, o13, x1, hc1 j1 (by omega)] at g1
  simp only [Int.zero_mul, Int.one_mul, Int.add_zero, Int.zero_add] at g1
  rw [o20, o22, o23, x1, hc1 j2 (by omega)] at g2
  simp only [Int.zero_mul, Int.one_mul, Int.add_zero, Int.zero_add] at g2
  have md : MD3 F (pf4 0 2 3 0) (pf4 j0 j1 j2 0) ≠ 0 := by
    intro q
    unfold MD3 at q
    simp only [pf4_0, pf4_1, pf4_2, pf4_3] at q
    refine hd ?_
    unfold D4
    rw [o00, o02, o03, o10, o12, o13, o20, o22, o23, z30, z31, z32, z33]
    clear hr hX hc hK hd r0 r2 r3 g0 g1 g2 g3
    grind
  refine good_3 hK (c0 := 0) (c1 := 2) (c2 := 3) (by omega) hj (by omega) ⟨hX 0 (by omega) (by omega), hX 2 (by omega) (by omega), hX 3 (by omega) (by omega)⟩ r0 r2 r3 g0 g1 g2 (fun c c0 c1 => ?_) (fun r r0 r1 => ?_) md
  · have h1 := hr c c0 (by omega)
    rw [CLo (j := j0) (by omega) c1, CLo (j := j1) (by omega) c1, CLo (j := j2) (by omega) c1] at h1
    have p3 := Int.mul_nonneg q3 (CLnn (F := F) (n := n) (N := N) (s := 1) (i := c) (by omega))
    omega
  · have h1 := hc r r0 r1
    rw [CLo (j := r) r1 n0, CLo (j := r) r1 n2, CLo (j := r) r1 n3, x1] at h1
    simp only [Int.zero_mul, Int.add_zero, Int.zero_add] at h1
    exact h1
theorem ker_3_2 {F : Int → Int → Int} {n N j0 j1 j2 : Int} (n4 : n ≤ 4) (hj : 0 ≤ j0 ∧ j0 < j1 ∧ j1 < j2 ∧ j2 < N) (h : PT F n N j0 j1 j2 (N + 2)) : ∃ k cp rp, (1 ≤ k ∧ k ≤ n) ∧ Pk k n cp ∧ Pk k N rp ∧ Good F n N k cp rp := by
  obtain ⟨_, hd, K, y0, y1, y2, y3, X, hK, ⟨q0, q1, q2, q3⟩, hr, hX, ⟨g0, g1, g2, g3⟩, hc⟩ := h
  have hc1 : ∀ j, j < N → csC N j = 1 := fun j h => if_pos h
  have z30 : CL F n N (N + 2) 0 = 0 := (CLs (by omega)).trans (by decide)
  have z31 : CL F n N (N + 2) 1 = 0 := (CLs (by omega)).trans (by decide)
  have z32 : CL F n N (N + 2) 2 = 1 := (CLs (by omega)).trans (by decide)
  have z33 : CL F n N (N + 2) 3 = 0 := (CLs (by omega)).trans (by decide)
  have w3 : csC N (N + 2) = 0 := if_neg (by omega)
  have x2 : X 2 = 0 := by
    rw [z30, z31, z32, z33, w3] at g3
    simp only [Int.mul_zero, Int.mul_one, Int.zero_mul, Int.add_zero, Int.zero_add] at g3
    exact g3
  have r0 := hr 0 (by omega) (by omega)
  have n0 : 0 < n := by
    by_cases q : 0 < n
    · exact q
    · exfalso
      rw [CLz (j := j0) (by omega) q, CLz (j := j1) (by omega) q, CLz (j := j2) (by omega) q, z30] at r0
      simp only [Int.mul_zero, Int.add_zero] at r0
      omega
  have r1 := hr 1 (by omega) (by omega)
  have n1 : 1 < n := by
    by_cases q : 1 < n
    · exact q
    · exfalso
      rw [CLz (j := j0) (by omega) q, CLz (j := j1) (by omega) q, CLz (j := j2) (by omega) q, z31] at r1
      simp only [Int.mul_zero, Int.add_zero] at r1
      omega
  have r3 := hr 3 (by omega) (by omega)
  have n3 : 3 < n := by
    by_cases q : 3 < n
    · exact q
    · exfalso
      rw [CLz (j := j0) (by omega) q, CLz (j := j1) (by omega) q, CLz (j := j2) (by omega) q, z33] at r3
      simp only [Int.mul_zero, Int.add_zero] at r3
      omega
  have o00 : CL F n N j0 0 = F 0 j0 := CLo (by omega) n0
  have o01 : CL F n N j0 1 = F 1 j0 := CLo (by omega) n1
  have o03 : CL F n N j0 3 = F 3 j0 := CLo (by omega) n3
  have o10 : CL F n N j1 0 = F 0 j1 := CLo (by omega) n0
  have o11 : CL F n N j1 1 = F 1 j1 := CLo (by omega) n1
  have o13 : CL F n N j1 3 = F 3 j1 := CLo (by omega) n3
  have o20 : CL F n N j2 0 = F 0 j2 := CLo (by omega) n0
  have o21 : CL F n N j2 1 = F 1 j2 := CLo (by omega) n1
  have o23 : CL F n N j2 3 = F 3 j2 := CLo (by omega) n3
  rw [o00, o10, o20, z30] at r0
  simp only [Int.mul_zero, Int.add_zero] at r0
  rw [o01, o11, o21, z31] at r1
  simp only [Int.mul_zero, Int.add_zero] at r1
  rw [o03, o13, o23, z33] at r3
  simp only [Int.mul_zero, Int.add_zero] at r3
  rw [o00, o01, o03, x2, hc1 j0 (by omega)] at g0
  simp only [Int.zero_mul, Int.one_mul, Int.add_zero, Int.zero_add] at g0
  rw [o10, o11, o13, x2, hc1 j1 (by omega)] at g1
  simp only [Int.zero_mul, Int.one_mul, Int.add_zero, Int.zero_add] at g1
  rw [o20, o21, o23, x2, hc1 j2 (by omega)] at g2
  simp only [Int.zero_mul, Int.one_mul, Int.add_zero, Int.zero_add] at g2
  have md : MD3 F (pf4 0 1 3 0) (pf4 j0 j1 j2 0) ≠ 0 := by
    intro q
    unfold MD3 at q
    simp only [pf4_0, pf4_1, pf4_2, pf4_3] at q
    refine hd ?_
    unfold D4
    rw [o00, o01, o03, o10, o11, o13, o20, o21, o23, z30, z31, z32, z33]
    clear hr hX hc hK hd r0 r1 r3 g0 g1 g2 g3
    grind
  refine good_3 hK (c0 := 0) (c1 := 1) (c2 := 3) (by omega) hj (by omega) ⟨hX 0 (by omega) (by omega), hX 1 (by omega) (by omega), hX 3 (by omega) (by omega)⟩ r0 r1 r3 g0 g1 g2 (fun c c0 c1 => ?_) (fun r r0 r1 => ?_) md
  · have h1 := hr c c0 (by omega)
    rw [CLo (j := j0) (by omega) c1, CLo (j := j1) (by omega) c1, CLo (j := j2) (by omega) c1] at h1
    have p3 := Int.mul_nonneg q3 (CLnn (F := F) (n := n) (N := N) (s := 2) (i := c) (by omega))
    omega
  · have h1 := hc r r0 r1
    rw [CLo (j := r) r1 n0, CLo (j := r) r1 n1, CLo (j := r) r1 n3, x2] at h1
    simp only [Int.zero_mul, Int.add_zero, Int.zero_add] at h1
    exact h1
theorem ker_3_3 {F : Int → Int → Int} {n N j0 j1 j2 : Int} (n4 : n ≤ 4) (hj : 0 ≤ j0 ∧ j0 < j1 ∧ j1 < j2 ∧ j2 < N) (h : PT F n N j0 j1 j2 (N + 3)) : ∃ k cp rp, (1 ≤ k ∧ k ≤ n) ∧ Pk k n cp ∧ Pk k N rp ∧ Good F n N k cp rp := by
  obtain ⟨_, hd, K, y0, y1, y2, y3, X, hK, ⟨q0, q1, q2, q3⟩, hr, hX, ⟨g0, g1, g2, g3⟩, hc⟩ := h
  have hc1 : ∀ j, j < N → csC N j = 1 := fun j h => if_pos h
  have z30 : CL F n N (N + 3) 0 = 0 := (CLs (by omega)).trans (by decide)
  have z31 : CL F n N (N + 3) 1 = 0 := (CLs (by omega)).trans (by decide)
  have z32 : CL F n N (N + 3) 2 = 0 := (CLs (by omega)).trans (by decide)
  have z33 : CL F n N (N + 3) 3 = 1 := (CLs (by omega)).trans (by decide)
  have w3 : csC N (N + 3) = 0 := if_neg (by omega)
  have x3 : X 3 = 0 := by
    rw [z30, z31, z32, z33, w3] at g3
    simp only [Int.mul_zero, Int.mul_one, Int.zero_mul, Int.add_zero, Int.zero_add] at g3
    exact g3
  have r0 := hr 0 (by omega) (by omega)
  have n0 : 0 < n := by
    by_cases q : 0 < n
    · exact q
    · exfalso
      rw [CLz (j := j0) (by omega) q, CLz (j := j1) (by omega) q, CLz (j := j2) (by omega) q, z30] at r0
      simp only [Int.mul_zero, Int.add_zero] at r0
      omega
  have r1 := hr 1 (by omega) (by omega)
  have n1 : 1 < n := by
    by_cases q : 1 < n
    · exact q
    · exfalso
      rw [CLz (j := j0) (by omega) q, CLz (j := j1) (by omega) q, CLz (j := j2) (by omega) q, z31] at r1
      simp only [Int.mul_zero, Int.add_zero] at r1
      omega
  have r2 := hr 2 (by omega) (by omega)
  have n2 : 2 < n := by
    by_cases q : 2 < n
    · exact q
    · exfalso
      rw [CLz (j := j0) (by omega) q, CLz (j := j1) (by omega) q, CLz (j := j2) (by omega) q, z32] at r2
      simp only [Int.mul_zero, Int.add_zero] at r2
      omega
  have o00 : CL F n N j0 0 = F 0 j0 := CLo (by omega) n0
  have o01 : CL F n N j0 1 = F 1 j0 := CLo (by omega) n1
  have o02 : CL F n N j0 2 = F 2 j0 := CLo (by omega) n2
  have o10 : CL F n N j1 0 = F 0 j1 := CLo (by omega) n0
  have o11 : CL F n N j1 1 = F 1 j1 := CLo (by omega) n1
  have o12 : CL F n N j1 2 = F 2 j1 := CLo (by omega) n2
  have o20 : CL F n N j2 0 = F 0 j2 := CLo (by omega) n0
  have o21 : CL F n N j2 1 = F 1 j2 := CLo (by omega) n1
  have o22 : CL F n N j2 2 = F 2 j2 := CLo (by omega) n2
  rw [o00, o10, o20, z30] at r0
  simp only [Int.mul_zero, Int.add_zero] at r0
  rw [o01, o11, o21, z31] at r1
  simp only [Int.mul_zero, Int.add_zero] at r1
  rw [o02, o12, o22, z32] at r2
  simp only [Int.mul_zero, Int.add_zero] at r2
  rw [o00, o01, o02, x3, hc1 j0 (by omega)] at g0
  simp only [Int.zero_mul, Int.one_mul, Int.add_zero, Int.zero_add] at g0
  rw [o10, o11, o12, x3, hc1 j1 (by omega)] at g1
  simp only [Int.zero_mul, Int.one_mul, Int.add_zero, Int.zero_add] at g1
  rw [o20, o21, o22, x3, hc1 j2 (by omega)] at g2
  simp only [Int.zero_mul, Int.one_mul, Int.add_zero, Int.zero_add] at g2
  have md : MD3 F (pf4 0 1 2 0) (pf4 j0 j1 j2 0) ≠ 0 := by
    intro q
    unfold MD3 at q
    simp only [pf4_0, pf4_1, pf4_2, pf4_3] at q
    refine hd ?_
    unfold D4
    rw [o00, o01, o02, o10, o11, o12, o20, o21, o22, z30, z31, z32, z33]
    clear hr hX hc hK hd r0 r1 r2 g0 g1 g2 g3
    grind
  refine good_3 hK (c0 := 0) (c1 := 1) (c2 := 2) (by omega) hj (by omega) ⟨hX 0 (by omega) (by omega), hX 1 (by omega) (by omega), hX 2 (by omega) (by omega)⟩ r0 r1 r2 g0 g1 g2 (fun c c0 c1 => ?_) (fun r r0 r1 => ?_) md
  · have h1 := hr c c0 (by omega)
    rw [CLo (j := j0) (by omega) c1, CLo (j := j1) (by omega) c1, CLo (j := j2) (by omega) c1] at h1
    have p3 := Int.mul_nonneg q3 (CLnn (F := F) (n := n) (N := N) (s := 3) (i := c) (by omega))
    omega
  · have h1 := hc r r0 r1
    rw [CLo (j := r) r1 n0, CLo (j := r) r1 n1, CLo (j := r) r1 n2, x3] at h1
    simp only [Int.zero_mul, Int.add_zero, Int.zero_add] at h1
    exact h1
theorem ker_4_ {F : Int → Int → Int} {n N j0 j1 j2 j3 : Int} (n4 : n ≤ 4) (hj : 0 ≤ j0 ∧ j0 < j1 ∧ j1 < j2 ∧ j2 < j3 ∧ j3 < N) (h : PT F n N j0 j1 j2 j3) : ∃ k cp rp, (1 ≤ k ∧ k ≤ n) ∧ Pk k n cp ∧ Pk k N rp ∧ Good F n N k cp rp := by
  obtain ⟨_, hd, K, y0, y1, y2, y3, X, hK, ⟨q0, q1, q2, q3⟩, hr, hX, ⟨g0, g1, g2, g3⟩, hc⟩ := h
  have hc1 : ∀ j, j < N → csC N j = 1 := fun j h => if_pos h
  have r0 := hr 0 (by omega) (by omega)
  have n0 : 0 < n := by
    by_cases q : 0 < n
    · exact q
    · exfalso
      rw [CLz (j := j0) (by omega) q, CLz (j := j1) (by omega) q, CLz (j := j2) (by omega) q, CLz (j := j3) (by omega) q] at r0
      simp only [Int.mul_zero, Int.add_zero] at r0
      omega
  have r1 := hr 1 (by omega) (by omega)
  have n1 : 1 < n := by
    by_cases q : 1 < n
    · exact q
    · exfalso
      rw [CLz (j := j0) (by omega) q, CLz (j := j1) (by omega) q, CLz (j := j2) (by omega) q, CLz (j := j3) (by omega) q] at r1
      simp only [Int.mul_zero, Int.add_zero] at r1
      omega
  have r2 := hr 2 (by omega) (by omega)
  have n2 : 2 < n := by
    by_cases q : 2 < n
    · exact q
    · exfalso
      rw [CLz (j := j0) (by omega) q, CLz (j := j1) (by omega) q, CLz (j := j2) (by omega) q, CLz (j := j3) (by omega) q] at r2
      simp only [Int.mul_zero, Int.add_zero] at r2
      omega
  have r3 := hr 3 (by omega) (by omega)
  have n3 : 3 < n := by
    by_cases q : 3 < n
    · exact q
    · exfalso
      rw [CLz (j := j0) (by omega) q, CLz (j := j1) (by omega) q, CLz (j := j2) (by omega) q, CLz (j := j3) (by omega) q] at r3
      simp only [Int.mul_zero, Int.add_zero] at r3
      omega
  have o00 : CL F n N j0 0 = F 0 j0 := CLo (by omega) n0
  have o01 : CL F n N j0 1 = F 1 j0 := CLo (by omega) n1
  have o02 : CL F n N j0 2 = F 2 j0 := CLo (by omega) n2
  have o03 : CL F n N j0 3 = F 3 j0 := CLo (by omega) n3
  have o10 : CL F n N j1 0 = F 0 j1 := CLo (by omega) n0
  have o11 : CL F n N j1 1 = F 1 j1 := CLo (by omega) n1
  have o12 : CL F n N j1 2 = F 2 j1 := CLo (by omega) n2
  have o13 : CL F n N j1 3 = F 3 j1 := CLo (by omega) n3
  have o20 : CL F n N j2 0 = F 0 j2 := CLo (by omega) n0
  have o21 : CL F n N j2 1 = F 1 j2 := CLo (by omega) n1
  have o22 : CL F n N j2 2 = F 2 j2 := CLo (by omega) n2
  have o23 : CL F n N j2 3 = F 3 j2 := CLo (by omega) n3
  have o30 : CL F n N j3 0 = F 0 j3 := CLo (by omega) n0
  have o31 : CL F n N j3 1 = F 1 j3 := CLo (by omega) n1
  have o32 : CL F n N j3 2 = F 2 j3 := CLo (by omega) n2
  have o33 : CL F n N j3 3 = F 3 j3 := CLo (by omega) n3
  rw [o00, o10, o20, o30] at r0
  rw [o01, o11, o21, o31] at r1
  rw [o02, o12, o22, o32] at r2
  rw [o03, o13, o23, o33] at r3
  rw [o00, o01, o02, o03, hc1 j0 (by omega)] at g0
  simp only [Int.zero_mul, Int.one_mul, Int.add_zero, Int.zero_add] at g0
  rw [o10, o11, o12, o13, hc1 j1 (by omega)] at g1
  simp only [Int.zero_mul, Int.one_mul, Int.add_zero, Int.zero_add] at g1
  rw [o20, o21, o22, o23, hc1 j2 (by omega)] at g2
  simp only [Int.zero_mul, Int.one_mul, Int.add_zero, Int.zero_add] at g2
  rw [o30, o31, o32, o33, hc1 j3 (by omega)] at g3
  simp only [Int.zero_mul, Int.one_mul, Int.add_zero, Int.zero_add] at g3
  have md : MD4 F (pf4 0 1 2 3) (pf4 j0 j1 j2 j3) ≠ 0 := by
    intro q
    unfold MD4 at q
    simp only [pf4_0, pf4_1, pf4_2, pf4_3] at q
    refine hd ?_
    unfold D4
    rw [o00, o01, o02, o03, o10, o11, o12, o13, o20, o21, o22, o23, o30, o31, o32, o33]
    clear hr hX hc hK hd r0 r1 r2 r3 g0 g1 g2 g3
    grind
  refine good_4 hK (c0 := 0) (c1 := 1) (c2 := 2) (c3 := 3) (by omega) hj (by omega) ⟨hX 0 (by omega) (by omega), hX 1 (by omega) (by omega), hX 2 (by omega) (by omega), hX 3 (by omega) (by omega)⟩ r0 r1 r2 r3 g0 g1 g2 g3 (fun c c0 c1 => ?_) (fun r r0 r1 => ?_) md
  · have h1 := hr c c0 (by omega)
    rw [CLo (j := j0) (by omega) c1, CLo (j := j1) (by omega) c1, CLo (j := j2) (by omega) c1, CLo (j := j3) (by omega) c1] at h1
    omega
  · have h1 := hc r r0 r1
    rw [CLo (j := r) r1 n0, CLo (j := r) r1 n1, CLo (j := r) r1 n2, CLo (j := r) r1 n3] at h1
    exact h1
/-- there is a kernel always -/
theorem ker_ex {F : Int → Int → Int} {n N : Int} (n1 : 1 ≤ n) (n4 : n ≤ 4) (N1 : 1 ≤ N) (N24 : N ≤ 24) (hF : ∀ c r : Int, 0 ≤ c → c < n → 0 ≤ r → r < N → 1 ≤ F c r ∧ F c r ≤ 560) : ∃ k cp rp, (1 ≤ k ∧ k ≤ n) ∧ Pk k n cp ∧ Pk k N rp ∧ Good F n N k cp rp := by
  obtain ⟨_, _, _, _, h⟩ := pt_ex n1 n4 N1 N24 hF
  obtain ⟨j0, j1, j2, j3, h, h01, h12, h23⟩ := pt_sort h
  have hv := h.1
  by_cases c3 : j3 < N
  · exact ker_4_ n4 (by omega) h
  by_cases c2 : j2 < N
  · rcases (by omega : j3 = N + 0 ∨ j3 = N + 1 ∨ j3 = N + 2 ∨ j3 = N + 3) with e | e | e | e <;> subst e
    · exact ker_3_0 n4 (by omega) h
    · exact ker_3_1 n4 (by omega) h
    · exact ker_3_2 n4 (by omega) h
    · exact ker_3_3 n4 (by omega) h
  by_cases c1 : j1 < N
  · rcases (by omega : (j2 = N + 0 ∧ j3 = N + 1) ∨ (j2 = N + 0 ∧ j3 = N + 2) ∨ (j2 = N + 0 ∧ j3 = N + 3) ∨ (j2 = N + 1 ∧ j3 = N + 2) ∨ (j2 = N + 1 ∧ j3 = N + 3) ∨ (j2 = N + 2 ∧ j3 = N + 3)) with ⟨e, f⟩ | ⟨e, f⟩ | ⟨e, f⟩ | ⟨e, f⟩ | ⟨e, f⟩ | ⟨e, f⟩ <;> subst e f
    · exact ker_2_01 n4 (by omega) h
    · exact ker_2_02 n4 (by omega) h
    · exact ker_2_03 n4 (by omega) h
    · exact ker_2_12 n4 (by omega) h
    · exact ker_2_13 n4 (by omega) h
    · exact ker_2_23 n4 (by omega) h
  by_cases c0 : j0 < N
  · rcases (by omega : (j1 = N + 0 ∧ j2 = N + 1 ∧ j3 = N + 2) ∨ (j1 = N + 0 ∧ j2 = N + 1 ∧ j3 = N + 3) ∨ (j1 = N + 0 ∧ j2 = N + 2 ∧ j3 = N + 3) ∨ (j1 = N + 1 ∧ j2 = N + 2 ∧ j3 = N + 3)) with ⟨e, f, g⟩ | ⟨e, f, g⟩ | ⟨e, f, g⟩ | ⟨e, f, g⟩ <;> subst e f g
    · exact ker_1_012 n4 (by omega) h
    · exact ker_1_013 n4 (by omega) h
    · exact ker_1_023 n4 (by omega) h
    · exact ker_1_123 n4 (by omega) h
  exfalso
  obtain ⟨_, hd, K, y0, y1, y2, y3, X, hK, _, hr, hX, ⟨g0, g1, g2, g3⟩, hc⟩ := h
  have e0 : j0 = N + 0 := by omega
  have e1 : j1 = N + 1 := by omega
  have e2 : j2 = N + 2 := by omega
  have e3 : j3 = N + 3 := by omega
  subst e0; subst e1; subst e2; subst e3
  have w : ∀ s : Int, 0 ≤ s → csC N (N + s) = 0 := fun s s0 => if_neg (by omega)
  rw [w _ (by omega)] at g0 g1 g2 g3
  simp only [CLs (F := F) (n := n) (N := N) (show (0 : Int) ≤ 0 by omega), CLs (F := F) (n := n) (N := N) (show (0 : Int) ≤ 1 by omega), CLs (F := F) (n := n) (N := N) (show (0 : Int) ≤ 2 by omega), CLs (F := F) (n := n) (N := N) (show (0 : Int) ≤ 3 by omega)] at g0 g1 g2 g3
  have x0 : X 0 = 0 := by simpa using g0
  have x1 : X 1 = 0 := by simpa using g1
  have x2 : X 2 = 0 := by simpa using g2
  have x3 : X 3 = 0 := by simpa using g3
  have h := hc 0 (by omega) (by omega)
  rw [x0, x1, x2, x3] at h
  simp only [Int.zero_mul, Int.add_zero] at h
  omega
