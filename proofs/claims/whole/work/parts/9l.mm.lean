/-! a line as the model reads it, a line as the class does -/
def RVm (v : TV) (m : Mem) : Prop := m 204 0 = v 0 0 ∧ m 204 1 = v 1 0 ∧ m 204 2 = v 2 0 ∧ m 204 3 = v 3 0 ∧ (∀ a : Int, 0 ≤ a → a < 8 → m 204 (10 + a) = v 4 a ∧ m 204 (20 + a) = v 5 a ∧ m 204 (30 + a) = v 6 a) ∧ (∀ j : Int, 0 ≤ j → j < 64 → m 204 (40 + j) = v 7 j) ∧ m 204 4 = 0
def keepB (S : Int) (x : Int × Int) : Prop := x.1 ≠ 0 ∧ (x.2 < S ∨ (x.2 = S ∧ x.1 ≤ 3))
theorem also_keep {S k s : Int} {x : Int × Int} (h : keepB S x) (hs : S < s ∨ (S = s ∧ k = 3)) : alsoF x k s = x := by
  unfold alsoF
  exact if_pos ⟨h.1, by have := h.2; omega⟩
theorem also_new {k s : Int} {x : Int × Int} (h : x.1 = 0) : alsoF x k s = (k, s) := if_neg (fun q => q.1 h)
theorem also_low {k s k' s' : Int} (h : s < s' ∨ (s = s' ∧ k ≤ k')) (hk : k ≠ 0) : alsoF (k, s) k' s' = (k, s) := if_pos ⟨hk, h⟩
theorem also_up {k s k' s' : Int} (h : s' < s) : alsoF (k, s) k' s' = (k', s') := if_neg (fun q => by have := q.2; show False; rcases this with w | w <;> (simp only at w; omega))
theorem alsoM_fl {μ : Mem} {k p : Int} (w : μ 201 8 = 0) : flM (alsoM μ k p) = alsoF (flM μ) k p := also_fl w
theorem kt_lt {tx : Int → Int} {n i : Int} (h : KT tx n i ≠ 0) : stT tx n i < n := Classical.byContradiction fun q => h (if_neg q)
theorem put_RV {v : TV} {m : Mem} {a b k : Int} (h : RVm v m) (a0 : 0 ≤ a) (a1 : a < 8) (b0 : 0 ≤ b) (b1 : b < 8) (hab : a ≠ b) : RVm (addLV v a b k) (putL m a b k) := by
  obtain ⟨h0, h1, h2, h3, h4, h7, h8⟩ := h
  have o : ∀ j : Int, j ≠ 1 → j ≠ 40 + 8 * a + b → j ≠ 40 + 8 * b + a → putL m a b k 204 j = m 204 j := fun j j1 j2 j3 => by
    unfold putL
    rw [ru_eq, r1_ne j1, ru_eq, r1_ne j3, ru_eq, r1_ne j2]
  refine ⟨by rw [o 0 (by omega) (by omega) (by omega)]; exact h0, ?_, by rw [o 2 (by omega) (by omega) (by omega)]; exact h2, by rw [o 3 (by omega) (by omega) (by omega)]; exact h3, fun x x0 x1 => ?_, fun j j0 j1 => ?_, by rw [o 4 (by omega) (by omega) (by omega)]; exact h8⟩
  · unfold putL
    rw [ru_eq, r1_eq, h1]
    rfl
  · rw [o (10 + x) (by omega) (by omega) (by omega), o (20 + x) (by omega) (by omega) (by omega), o (30 + x) (by omega) (by omega) (by omega)]
    exact h4 x x0 x1
  · show putL m a b k 204 (40 + j) = if j = 8 * b + a ∨ j = 8 * a + b then k else v 7 j
    unfold putL
    rw [ru_eq, r1_ne (by omega), ru_eq]
    by_cases c1 : j = 8 * b + a
    · rw [if_pos (Or.inl c1), c1, show 40 + (8 * b + a) = 40 + 8 * b + a by omega, r1_eq]
    · rw [r1_ne (by omega), ru_eq]
      by_cases c2 : j = 8 * a + b
      · rw [if_pos (Or.inr c2), c2, show 40 + (8 * a + b) = 40 + 8 * a + b by omega, r1_eq]
      · rw [r1_ne (by omega), if_neg (by omega)]
        exact h7 j j0 j1
/-- a line's numbers, read -/
def LineR (tx : Int → Int) (n p c : Int) (res : TV → (Int × Int) × TV) (μ m : Mem) : Prop :=
  (∃ g : Int, (0 ≤ g ∧ g < c) ∧ KT tx n (p + 1 + g) ≠ 2 ∧ (∀ j : Int, 0 ≤ j → j < g → KT tx n (p + 1 + j) = 2) ∧ m 201 8 = 1 ∧ flM m = (1, stT tx n (p + 1 + g))) ∨
  ((∀ j : Int, 0 ≤ j → j < c → KT tx n (p + 1 + j) = 2) ∧ m 201 8 = 0 ∧ AT tx n (p + 1 + c) m ∧ (keepB (stT tx n p) (flM μ) → flM m = flM μ) ∧ ((flM μ).1 = 0 → ∀ v : TV, RdOk v → RVm v μ → ((res v).1.1 ≠ 0 → flM m = (res v).1) ∧ ((res v).1.1 = 0 → flM m = flM μ ∧ RVm (res v).2 m)))
theorem also_keepM {μ : Mem} {k p : Int} (hb : PBm μ) (hk : 0 ≤ k ∧ k ≤ 10) (hp : 0 ≤ p ∧ p ≤ 500) : PBm (alsoM μ k p) ∧ PFm μ (alsoM μ k p) ∧ alsoM μ k p 201 = μ 201 ∧ alsoM μ k p 204 = μ 204 ∧ TX (alsoM μ k p) = TX μ := also_PB hb hk hp rfl
theorem at_also {tx : Int → Int} {n i k p : Int} {μ : Mem} (h : AT tx n i μ) (hb : PBm μ) (hk : 0 ≤ k ∧ k ≤ 10) (hp : 0 ≤ p ∧ p ≤ 500) : AT tx n i (alsoM μ k p) := by
  have a := also_keepM hb hk hp
  exact at_fr h (fun f _ _ => by rw [a.2.2.1]) a.2.2.2.2
theorem st_500 {tx : Int → Int} {n i : Int} (hn : 0 ≤ n ∧ n ≤ 500) (i0 : 0 ≤ i) : 0 ≤ stT tx n i ∧ stT tx n i ≤ 500 := by
  have := stT_bd (tx := tx) hn.1 i0
  omega
/-- what aLane leaves, whatever stands there -/
theorem lan_base {μ m : Mem} {p : Int} (hb : PBm μ) (hr : RBm μ) (hp : 0 ≤ p ∧ p ≤ 500) (q : Q_X11_aLane 201 p μ m) : PBm m ∧ PFm μ m ∧ m 201 9 = μ 201 9 ∧ (m 204 0 = μ 204 0 ∧ (0 ≤ m 204 1 ∧ m 204 1 ≤ μ 204 1 + 1) ∧ ∀ j : Int, 0 ≤ j → j < 64 → 0 ≤ m 204 (40 + j) ∧ m 204 (40 + j) ≤ 20) := by
  obtain ⟨m0, m1, m2, m3, m4, a, b, k, h0, q1, q2, h3, q4, h⟩ := q
  have q1' : Q_X11_numbered 201 0 (m0 204 0 - 1) m0 m1 a := q1
  have q2' : Q_X11_numbered 201 0 (m1 204 0 - 1) m1 m2 b := q2
  have b0 : PBm m0 ∧ PFm μ m0 ∧ m0 201 9 = μ 201 9 ∧ m0 204 = μ 204 := by
    by_cases c : μ 204 1 = 20
    · rw [if_pos c] at h0
      have := also_keepM (k := 3) hb (by omega) hp
      rw [← h0] at this
      exact ⟨this.1, this.2.1, by rw [this.2.2.1], this.2.2.2.1⟩
    · rw [if_neg c] at h0
      rw [h0]
      exact ⟨hb, PFm_0 _, rfl, rfl⟩
  have e1 : m1 204 = μ 204 := by rw [q1'.2.2.1, b0.2.2.2]
  have e2 : m2 204 = μ 204 := by rw [q2'.2.2.1, e1]
  have b3 : PBm m3 ∧ PFm m2 m3 ∧ m3 201 9 = m2 201 9 ∧ m3 204 = m2 204 := by
    by_cases c : (¬ m1 201 11 = 0 ∧ ¬ m2 201 11 = 0) ∧ a = b
    · rw [if_pos c] at h3
      have := also_keepM (k := 2) (p := m1 201 4) q2'.1 (by omega) q1'.1.2.2.2.2.2.2.1
      rw [← h3] at this
      exact ⟨this.1, this.2.1, by rw [this.2.2.1], this.2.2.2.1⟩
    · rw [if_neg c] at h3
      rw [h3]
      exact ⟨q2'.1, PFm_0 _, rfl, rfl⟩
  have b4 := q4.1
  have pf4 : PFm μ m4 := (((b0.2.1.trans q1'.2.1).trans q2'.2.1).trans b3.2.1).trans q4.2.1
  have e4 : m4 204 = μ 204 := by rw [q4.2.2.1, b3.2.2.2, e2]
  have n4 : m4 201 9 = μ 201 9 := by rw [q4.2.2.2.1, b3.2.2.1, q2'.2.2.2.1, q1'.2.2.2.1, b0.2.2.1]
  have ra := num_r q1' (by rw [b0.2.2.2]; have := hr.1; omega)
  have rb := num_r q2' (by rw [e1]; have := hr.1; omega)
  have rk := num_r q4 (by omega)
  rw [b0.2.2.2] at ra
  rw [e1] at rb
  have hr0 := hr.1
  have hr1 := hr.2.1
  by_cases c : m4 201 8 ≠ 0 ∨ ¬ (¬ m1 201 11 = 0 ∧ ¬ m2 201 11 = 0) ∨ a = b
  · rw [if_pos c] at h
    rw [h, e4]
    exact ⟨b4, pf4, n4, rfl, by omega, hr.2.2⟩
  · rw [if_neg c] at h
    obtain ⟨m5, h5⟩ : ∃ m5, m5 = (if 0 < m4 204 (40 + 8 * a + b) then alsoM m4 3 p else m4) := ⟨_, rfl⟩
    rw [← h5] at h
    have b5 : PBm m5 ∧ PFm m4 m5 ∧ m5 201 9 = m4 201 9 ∧ m5 204 = m4 204 := by
      by_cases c : 0 < m4 204 (40 + 8 * a + b)
      · rw [if_pos c] at h5
        have := also_keepM (k := 3) b4 (by omega) hp
        rw [← h5] at this
        exact ⟨this.1, this.2.1, by rw [this.2.2.1], this.2.2.2.1⟩
      · rw [if_neg c] at h5
        rw [h5]
        exact ⟨b4, PFm_0 _, rfl, rfl⟩
    have pz : ∀ z : Int, z ≠ 204 → m z = m5 z := fun z hz => by rw [h]; unfold putL; rw [ru_ne hz, ru_ne hz, ru_ne hz]
    have pb : PBm m := by
      have := b5.1
      unfold PBm TBm at *
      rw [pz 201 (by omega), pz 202 (by omega)]
      exact this
    have pf : PFm m5 m := ⟨fun f _ => by rw [pz 201 (by omega)], fun j _ _ => by rw [pz 202 (by omega)], fun z _ _ hz => pz z hz⟩
    have cell : ∀ j : Int, m 204 j = if j = 1 then μ 204 1 + 1 else if j = 40 + 8 * b + a then k else if j = 40 + 8 * a + b then k else μ 204 j := fun j => by
      rw [h]
      unfold putL
      rw [ru_eq]
      by_cases c1 : j = 1
      · rw [if_pos c1, c1, r1_eq, b5.2.2.2, e4]
      · rw [if_neg c1, r1_ne c1, ru_eq]
        by_cases c2 : j = 40 + 8 * b + a
        · rw [if_pos c2, c2, r1_eq]
        · rw [if_neg c2, r1_ne c2, ru_eq]
          by_cases c3 : j = 40 + 8 * a + b
          · rw [if_pos c3, c3, r1_eq]
          · rw [if_neg c3, r1_ne c3, b5.2.2.2, e4]
    refine ⟨pb, (pf4.trans b5.2.1).trans pf, by rw [pz 201 (by omega), b5.2.2.1, n4], by rw [cell, if_neg (by omega), if_neg (by omega), if_neg (by omega)], by rw [cell, if_pos rfl]; omega, fun j j0 j1 => ?_⟩
    have := hr.2.2 j j0 j1
    rw [cell, if_neg (by omega)]
    split
    · omega
    · split
      · omega
      · exact this
theorem lan_line {tx : Int → Int} {n p : Int} {μ m : Mem} (hb : PBm μ) (hr : RBm μ) (p0 : 0 ≤ p) (ha : AT tx n (p + 1) μ) (kp : KT tx n p ≠ 0) (w : μ 201 8 = 0) (q : Q_X11_aLane 201 (stT tx n p) μ m) : LineR tx n p 3 (lanV (stT tx n) (VT tx n) p) μ m := by
  have hn : 0 ≤ n ∧ n ≤ 500 := by have := hb.2.2.2.2.1.1; rw [ha.2.1] at this; exact this
  have hp := st_500 (tx := tx) hn p0
  have base := lan_base hb hr hp q
  obtain ⟨m0, m1, m2, m3, m4, a, b, k, h0, q1, q2, h3, q4, h⟩ := q
  have q1' : Q_X11_numbered 201 0 (m0 204 0 - 1) m0 m1 a := q1
  have q2' : Q_X11_numbered 201 0 (m1 204 0 - 1) m1 m2 b := q2
  have s1 := stT_lt (tx := tx) hn.1 p0 (kt_lt kp)
  have hr0 := hr.1
  -- the first also
  have b0 : PBm m0 ∧ AT tx n (p + 1) m0 ∧ m0 201 8 = 0 ∧ m0 204 = μ 204 ∧ flM m0 = (if μ 204 1 = 20 then alsoF (flM μ) 3 (stT tx n p) else flM μ) := by
    by_cases c : μ 204 1 = 20
    · rw [if_pos c] at h0 ⊢
      have := also_keepM (k := 3) hb (by omega) hp
      have at0 := at_also ha hb (k := 3) (by omega) hp
      have f0 := alsoM_fl (k := 3) (p := stT tx n p) w
      rw [← h0] at this at0 f0
      exact ⟨this.1, at0, by rw [this.2.2.1, w], this.2.2.2.1, f0⟩
    · rw [if_neg c] at h0 ⊢
      rw [h0]
      exact ⟨hb, ha, w, rfl, rfl⟩
  obtain ⟨pb0, at0, w0, e0, f0⟩ := b0
  have n1 := num_step q1' pb0 at0 (by omega) w0
  have pb1 := q1'.1
  have e1 : m1 204 = μ 204 := by rw [q1'.2.2.1, e0]
  rw [e0] at n1
  by_cases k1 : KT tx n (p + 1) = 2
  rotate_left
  · -- no number at the first place
    obtain ⟨w1, f1, _, g1⟩ := n1.1 k1
    obtain ⟨w2, f2, _, _⟩ := num_wrong q2' w1
    rw [if_neg (fun c => c.1.1 g1)] at h3
    obtain ⟨w4, f4, _, _⟩ := num_wrong q4 (by rw [h3]; exact w2)
    rw [if_pos (Or.inl (by rw [w4]; omega))] at h
    refine Or.inl ⟨0, by omega, by rw [show p + 1 + 0 = p + 1 by omega]; exact k1, fun j j0 j1 => by omega, by rw [h, w4], ?_⟩
    rw [h, f4, h3, f2, f1, show p + 1 + 0 = p + 1 by omega]
  obtain ⟨w1, at1, c1⟩ := n1.2 k1
  rw [show p + 1 + 1 = p + 2 by omega] at at1
  have s2 := stT_lt (tx := tx) hn.1 (show 0 ≤ p + 1 by omega) (kt_lt (by omega))
  rw [show p + 1 + 1 = p + 2 by omega] at s2
  have n2 := num_step q2' pb1 at1 (by omega) w1
  have pb2 := q2'.1
  have e2 : m2 204 = μ 204 := by rw [q2'.2.2.1, e1]
  rw [e1] at n2
  by_cases k2 : KT tx n (p + 2) = 2
  rotate_left
  · obtain ⟨w2, f2, _, g2⟩ := n2.1 k2
    rw [if_neg (fun c => c.1.2 g2)] at h3
    obtain ⟨w4, f4, _, _⟩ := num_wrong q4 (by rw [h3]; exact w2)
    rw [if_pos (Or.inl (by rw [w4]; omega))] at h
    refine Or.inl ⟨1, by omega, by rw [show p + 1 + 1 = p + 2 by omega]; exact k2, fun j j0 j1 => by rw [show p + 1 + j = p + 1 by omega]; exact k1, by rw [h, w4], ?_⟩
    rw [h, f4, h3, f2, show p + 1 + 1 = p + 2 by omega]
  obtain ⟨w2, at2, c2⟩ := n2.2 k2
  rw [show p + 2 + 1 = p + 3 by omega] at at2
  have s3 := stT_lt (tx := tx) hn.1 (show 0 ≤ p + 2 by omega) (kt_lt (by omega))
  rw [show p + 2 + 1 = p + 3 by omega] at s3
  have hs2 := st_500 (tx := tx) hn (show 0 ≤ p + 2 by omega)
  have wh1 := at_where at1
  rw [wh1] at h3
  have b3 : PBm m3 ∧ AT tx n (p + 3) m3 ∧ m3 201 8 = 0 ∧ m3 204 = μ 204 ∧ flM m3 = (if (¬ m1 201 11 = 0 ∧ ¬ m2 201 11 = 0) ∧ a = b then alsoF (flM m2) 2 (stT tx n (p + 2)) else flM m2) := by
    by_cases c : (¬ m1 201 11 = 0 ∧ ¬ m2 201 11 = 0) ∧ a = b
    · rw [if_pos c] at h3 ⊢
      have := also_keepM (k := 2) pb2 (by omega) hs2
      have at3 := at_also at2 pb2 (k := 2) (by omega) hs2
      have f3 := alsoM_fl (k := 2) (p := stT tx n (p + 2)) w2
      rw [← h3] at this at3 f3
      exact ⟨this.1, at3, by rw [this.2.2.1, w2], by rw [this.2.2.2.1, e2], f3⟩
    · rw [if_neg c] at h3 ⊢
      rw [h3]
      exact ⟨pb2, at2, w2, e2, rfl⟩
  obtain ⟨pb3, at3, w3, e3, f3⟩ := b3
  have n4 := num_step q4 pb3 at3 (by omega) w3
  have pb4 := q4.1
  have e4 : m4 204 = μ 204 := by rw [q4.2.2.1, e3]
  by_cases k3 : KT tx n (p + 3) = 2
  rotate_left
  · obtain ⟨w4, f4, _, _⟩ := n4.1 k3
    rw [if_pos (Or.inl (by rw [w4]; omega))] at h
    refine Or.inl ⟨2, by omega, by rw [show p + 1 + 2 = p + 3 by omega]; exact k3, fun j j0 j1 => ?_, by rw [h, w4], ?_⟩
    · rcases (by omega : j = 0 ∨ j = 1) with e | e <;> subst e
      · rw [show p + 1 + 0 = p + 1 by omega]; exact k1
      · rw [show p + 1 + 1 = p + 2 by omega]; exact k2
    · rw [h, f4, show p + 1 + 2 = p + 3 by omega]
  obtain ⟨w4, at4, c4⟩ := n4.2 k3
  rw [show p + 3 + 1 = p + 4 by omega] at at4
  -- the last also and the lane
  obtain ⟨m5, h5⟩ : ∃ m5, m5 = (if 0 < m4 204 (40 + 8 * a + b) then alsoM m4 3 (stT tx n p) else m4) := ⟨_, rfl⟩
  rw [← h5] at h
  have b5 : AT tx n (p + 4) m5 ∧ m5 201 8 = 0 ∧ m5 204 = μ 204 ∧ flM m5 = (if 0 < μ 204 (40 + 8 * a + b) then alsoF (flM m4) 3 (stT tx n p) else flM m4) := by
    rw [e4] at h5
    by_cases c : 0 < μ 204 (40 + 8 * a + b)
    · rw [if_pos c] at h5 ⊢
      have := also_keepM (k := 3) pb4 (by omega) hp
      have at5 := at_also at4 pb4 (k := 3) (by omega) hp
      have f5 := alsoM_fl (k := 3) (p := stT tx n p) w4
      rw [← h5] at this at5 f5
      exact ⟨at5, by rw [this.2.2.1, w4], by rw [this.2.2.2.1, e4], f5⟩
    · rw [if_neg c] at h5 ⊢
      rw [h5]
      exact ⟨at4, w4, e4, rfl⟩
  obtain ⟨at5, w5, e5, f5⟩ := b5
  have pz : ∀ z : Int, z ≠ 204 → putL m5 a b k z = m5 z := fun z hz => by unfold putL; rw [ru_ne hz, ru_ne hz, ru_ne hz]
  have b6 : AT tx n (p + 4) m ∧ m 201 8 = 0 ∧ flM m = (if ¬ (¬ m1 201 11 = 0 ∧ ¬ m2 201 11 = 0) ∨ a = b then flM m4 else flM m5) := by
    by_cases c : ¬ (¬ m1 201 11 = 0 ∧ ¬ m2 201 11 = 0) ∨ a = b
    · rw [if_pos (Or.inr c)] at h
      rw [h, if_pos c]
      exact ⟨at4, w4, rfl⟩
    · rw [if_neg (fun q => by rcases q with q | q; exact q w4; exact c q)] at h
      have t5 : TX (putL m5 a b k) = TX m5 := by unfold TX; rw [pz 201 (by omega), pz 202 (by omega)]
      rw [h, if_neg c]
      refine ⟨at_fr at5 (fun f _ _ => by rw [pz 201 (by omega)]) t5, by rw [pz 201 (by omega), w5], ?_⟩
      unfold flM
      rw [pz 202 (by omega)]
  obtain ⟨at6, w6, f6⟩ := b6
  refine Or.inr ⟨fun j j0 j1 => ?_, w6, by rw [show p + 1 + 3 = p + 4 by omega]; exact at6, fun hk => ?_, fun hz v hv hrv => ?_⟩
  · rcases (by omega : j = 0 ∨ j = 1 ∨ j = 2) with e | e | e <;> subst e
    · rw [show p + 1 + 0 = p + 1 by omega]; exact k1
    · rw [show p + 1 + 1 = p + 2 by omega]; exact k2
    · rw [show p + 1 + 2 = p + 3 by omega]; exact k3
  · -- an earlier fault stays
    have g0 : flM m0 = flM μ := by
      rw [f0]
      split
      · exact also_keep hk (Or.inr ⟨rfl, rfl⟩)
      · rfl
    have g1 : flM m1 = flM μ := by
      rcases c1 with ⟨_, _, _, e⟩ | ⟨_, _, _, e⟩
      · rw [e, g0]
      · rw [e, g0]; exact also_keep hk (Or.inl s1)
    have g2 : flM m2 = flM μ := by
      rcases c2 with ⟨_, _, _, e⟩ | ⟨_, _, _, e⟩
      · rw [e, g1]
      · rw [e, g1]; exact also_keep hk (Or.inl (by omega))
    have g3 : flM m3 = flM μ := by
      rw [f3, g2]
      split
      · exact also_keep hk (Or.inl (by omega))
      · rfl
    have g4 : flM m4 = flM μ := by
      rcases c4 with ⟨_, _, _, e⟩ | ⟨_, _, _, e⟩
      · rw [e, g3]
      · rw [e, g3]; exact also_keep hk (Or.inl (by omega))
    have g5 : flM m5 = flM μ := by
      rw [f5, g4]
      split
      · exact also_keep hk (Or.inr ⟨rfl, rfl⟩)
      · rfl
    rw [f6, g4, g5]
    split <;> rfl
  · -- the first fault, or the lane
    obtain ⟨r0, r1, r2, r3, r4, r7, r8⟩ := hrv
    have okv := hv.1
    have h7 := okv.2.2.2.2.2.2.1
    have v10 := hv.2.1
    rw [r0] at c1 c2 hr0
    obtain ⟨A, eA⟩ : ∃ A : Int, A = VT tx n (p + 1) := ⟨_, rfl⟩
    obtain ⟨B, eB⟩ : ∃ B : Int, B = VT tx n (p + 2) := ⟨_, rfl⟩
    obtain ⟨C, eC⟩ : ∃ C : Int, C = VT tx n (p + 3) := ⟨_, rfl⟩
    rw [← eA] at c1
    rw [← eB] at c2
    rw [← eC] at c4
    unfold lanV
    rw [← eA, ← eB, ← eC]
    obtain ⟨s, es⟩ : ∃ s : Int, s = stT tx n p := ⟨_, rfl⟩
    obtain ⟨sa, esa⟩ : ∃ s : Int, s = stT tx n (p + 1) := ⟨_, rfl⟩
    obtain ⟨sb, esb⟩ : ∃ s : Int, s = stT tx n (p + 2) := ⟨_, rfl⟩
    obtain ⟨sc, esc⟩ : ∃ s : Int, s = stT tx n (p + 3) := ⟨_, rfl⟩
    rw [← es, ← esa] at s1
    rw [← esa, ← esb] at s2
    rw [← esb, ← esc] at s3
    rw [← esa] at c1
    rw [← esb] at c2 f3
    rw [← esc] at c4
    rw [← es] at f0 f5
    rw [← es, ← esa, ← esb, ← esc]
    -- whatever comes behind a fault at or before x is the fault
    have st1 : ∀ k' s', (flM m0 = (k', s') ∧ k' ≠ 0 ∧ s' ≤ s) → flM m1 = (k', s') := fun k' s' hh => by
      rcases c1 with ⟨_, _, _, e⟩ | ⟨_, _, _, e⟩
      · rw [e, hh.1]
      · rw [e, hh.1]; exact also_low (Or.inl (by omega)) hh.2.1
    have st2 : ∀ k' s', (flM m1 = (k', s') ∧ k' ≠ 0 ∧ s' ≤ sa) → flM m2 = (k', s') := fun k' s' hh => by
      rcases c2 with ⟨_, _, _, e⟩ | ⟨_, _, _, e⟩
      · rw [e, hh.1]
      · rw [e, hh.1]; exact also_low (Or.inl (by omega)) hh.2.1
    have st3 : ∀ k' s', (flM m2 = (k', s') ∧ k' ≠ 0 ∧ (s' < sb ∨ s' = sb ∧ k' ≤ 2)) → flM m3 = (k', s') := fun k' s' hh => by
      rw [f3]
      split
      · rw [hh.1]; exact also_low hh.2.2 hh.2.1
      · exact hh.1
    have st4 : ∀ k' s', (flM m3 = (k', s') ∧ k' ≠ 0 ∧ s' ≤ sb) → flM m4 = (k', s') := fun k' s' hh => by
      rcases c4 with ⟨_, _, _, e⟩ | ⟨_, _, _, e⟩
      · rw [e, hh.1]
      · rw [e, hh.1]; exact also_low (Or.inl (by omega)) hh.2.1
    by_cases T1 : μ 204 1 = 20
    · -- too many lanes
      rw [if_pos T1, also_new hz] at f0
      have g1 := st1 3 s ⟨f0, by omega, Int.le_refl _⟩
      have g2 := st2 3 s ⟨g1, by omega, by omega⟩
      have g3 := st3 3 s ⟨g2, by omega, Or.inl (by omega)⟩
      have g4 := st4 3 s ⟨g3, by omega, by omega⟩
      have g5 : flM m5 = (3, s) := by
        rw [f5, g4]
        split
        · exact also_low (Or.inr ⟨rfl, Int.le_refl _⟩) (by omega)
        · rfl
      have g6 : flM m = (3, s) := by
        rw [f6, g4, g5]
        split <;> rfl
      rw [if_pos (Or.inl (by omega))]
      exact ⟨fun _ => g6, fun c => absurd (show (3 : Int) = 0 from c) (by omega)⟩
    · rw [if_neg T1] at f0
      rw [r1] at T1
      by_cases G1 : 0 ≤ A ∧ A < v 0 0
      rotate_left
      · rw [if_neg (fun q => by rcases q with q | q; omega; exact G1 q.1), if_pos G1]
        rcases c1 with ⟨c, _⟩ | ⟨_, ea, g, e⟩
        · exact absurd ⟨c.1, by omega⟩ G1
        · have g1 : flM m1 = (2, sa) := by rw [e, f0, also_new hz]
          have g2 := st2 2 sa ⟨g1, by omega, Int.le_refl _⟩
          have g3 := st3 2 sa ⟨g2, by omega, Or.inl (by omega)⟩
          have g4 := st4 2 sa ⟨g3, by omega, by omega⟩
          rw [if_pos (Or.inl (fun q => q.1 g))] at f6
          exact ⟨fun _ => by rw [f6, g4], fun c => absurd (show (2 : Int) = 0 from c) (by omega)⟩
      rcases c1 with ⟨_, ea, g1, e1'⟩ | ⟨c, _⟩
      rotate_left
      · exact absurd ⟨G1.1, by omega⟩ c
      by_cases G2 : 0 ≤ B ∧ B < v 0 0
      rotate_left
      · rw [if_neg (fun q => by rcases q with q | q; omega; exact G2 q.2.1), if_neg (fun q => q G1), if_pos (Or.inl G2)]
        rcases c2 with ⟨c, _⟩ | ⟨_, eb, g, e⟩
        · exact absurd ⟨c.1, by omega⟩ G2
        · have g2 : flM m2 = (2, sb) := by rw [e, e1', f0, also_new hz]
          have g3 := st3 2 sb ⟨g2, by omega, Or.inr ⟨rfl, Int.le_refl _⟩⟩
          have g4 := st4 2 sb ⟨g3, by omega, Int.le_refl _⟩
          rw [if_pos (Or.inl (fun q => q.2 g))] at f6
          exact ⟨fun _ => by rw [f6, g4], fun c => absurd (show (2 : Int) = 0 from c) (by omega)⟩
      rcases c2 with ⟨_, eb, g2, e2'⟩ | ⟨c, _⟩
      rotate_left
      · exact absurd ⟨G2.1, by omega⟩ c
      rw [← ea] at G1
      rw [← eb] at G2
      rw [← ea, ← eb]
      have good : ¬ m1 201 11 = 0 ∧ ¬ m2 201 11 = 0 := by omega
      have hs7 := h7 a b G1.1 (by omega) G2.1 (by omega)
      have cellb := okv.2.2.2.2.2.1 (8 * a + b) (by omega) (by omega)
      have cell : μ 204 (40 + 8 * a + b) = v 7 (8 * a + b) := by rw [← r7 (8 * a + b) (by omega) (by omega), show 40 + (8 * a + b) = 40 + 8 * a + b by omega]
      rw [cell] at f5
      by_cases ab : a = b
      · -- the same place twice
        have z7 : v 7 (8 * a + b) = 0 := by rw [← ab]; exact hs7.2.1
        rw [if_neg (fun q => by rcases q with q | q; omega; exact q.2.2 z7), if_neg (fun q => q G1), if_pos (Or.inr ab)]
        have g3 : flM m3 = (2, sb) := by rw [f3, if_pos ⟨good, ab⟩, e2', e1', f0, also_new hz]
        have g4 := st4 2 sb ⟨g3, by omega, Int.le_refl _⟩
        rw [if_pos (Or.inr ab)] at f6
        exact ⟨fun _ => by rw [f6, g4], fun c => absurd (show (2 : Int) = 0 from c) (by omega)⟩
      · have n6 : ¬ (¬ (¬ m1 201 11 = 0 ∧ ¬ m2 201 11 = 0) ∨ a = b) := fun q => by
          rcases q with q | q
          · exact q good
          · exact ab q
        rw [if_neg n6] at f6
        rw [if_neg (fun q => ab q.2)] at f3
        have g3 : flM m3 = flM μ := by rw [f3, e2', e1', f0]
        by_cases dup : v 7 (8 * a + b) = 0
        · rw [if_neg (by omega)] at f5
          rw [if_neg (fun q => by rcases q with q | q; omega; exact q.2.2 dup), if_neg (fun q => q G1), if_neg (fun q => by rcases q with q | q; exact q G2; exact ab q)]
          rcases c4 with ⟨hc, ek, _, e⟩ | ⟨hc, ek, _, e⟩
          · rw [if_neg (fun q => q hc), ← ek]
            have hput : m = putL m5 a b k := by
              rw [if_neg (fun q => by rcases q with q | q; exact q w4; exact n6 q)] at h
              exact h
            refine ⟨fun c => absurd rfl c, fun _ => ⟨by rw [f6, f5, e, g3], ?_⟩⟩
            rw [hput]
            refine put_RV ?_ G1.1 (by omega) G2.1 (by omega) ab
            unfold RVm
            rw [e5]
            exact ⟨r0, r1, r2, r3, r4, r7, r8⟩
          · rw [if_pos hc]
            exact ⟨fun _ => by rw [f6, f5, e, g3, also_new hz], fun c => absurd (show (2 : Int) = 0 from c) (by omega)⟩
        · rw [if_pos (by omega)] at f5
          rw [if_pos (Or.inr ⟨G1, G2, dup⟩)]
          refine ⟨fun _ => ?_, fun c => absurd (show (3 : Int) = 0 from c) (by omega)⟩
          rw [f6, f5]
          rcases c4 with ⟨_, _, _, e⟩ | ⟨_, _, _, e⟩
          · rw [e, g3, also_new hz]
          · rw [e, g3, also_new hz]; exact also_up (by omega)
