theorem hb_loc {a b : Mem} (h : ∀ y : Int, 0 ≤ y → y ≤ 200 → b y = a y) (q : HbK a) : HbK b := by
  obtain ⟨q1, q2, q3, q4, ⟨q5, q6, q7⟩, q8, q9, q10, q11, q12, q13, q14, q15, q16, q17, q18⟩ := q
  refine ⟨fun g hg => by rw [h 0 (by omega) (by omega)]; exact q1 g hg, by rw [h 0 (by omega) (by omega)]; exact q2, loc_wl 1 _ _ (fun y y0 y1 => h y (by omega) (by omega)) q3, fun j hj => by rw [h 34 (by omega) (by omega)]; exact q4 j hj, ⟨loc_wl 35 _ _ (fun y y0 y1 => h y (by omega) (by omega)) q5, loc_wl 68 _ _ (fun y y0 y1 => h y (by omega) (by omega)) q6, loc_wl 101 _ _ (fun y y0 y1 => h y (by omega) (by omega)) q7⟩, by rw [h 134 (by omega) (by omega)]; exact q8, loc_ob 7 9 135 _ _ (fun y y0 y1 => h y (by omega) (by omega)) q9, loc_ob 5 3 145 _ _ (fun y y0 y1 => h y (by omega) (by omega)) q10, loc_ob 6 6 149 _ _ (fun y y0 y1 => h y (by omega) (by omega)) q11, loc_gm 156 _ _ (fun y y0 y1 => h y (by omega) (by omega)) q12, loc_gm 167 _ _ (fun y y0 y1 => h y (by omega) (by omega)) q13, loc_ob 3 1 178 _ _ (fun y y0 y1 => h y (by omega) (by omega)) q14, loc_ob 1 5 180 _ _ (fun y y0 y1 => h y (by omega) (by omega)) q15, loc_ob 2 8 186 _ _ (fun y y0 y1 => h y (by omega) (by omega)) q16, loc_ob 8 2 195 _ _ (fun y y0 y1 => h y (by omega) (by omega)) q17, loc_ob 4 2 198 _ _ (fun y y0 y1 => h y (by omega) (by omega)) q18⟩
def objL : List (Nat × Nat) := [(0, 10), (1, 9), (4, 7), (14, 7), (24, 7), (35, 9), (38, 7), (48, 7), (58, 7), (68, 9), (71, 7), (81, 7), (91, 7), (101, 9), (104, 7), (114, 7), (124, 7), (135, 7), (145, 5), (149, 6), (156, 0), (167, 0), (178, 3), (180, 1), (186, 2), (195, 8), (198, 4), (201, 11)]
theorem obj_tab : ∀ n, n < 232 → 10 ≤ (LAY n).1 → (n, (LAY n).1 - 10) ∈ objL := by decide +kernel
theorem arr4_tab : ∀ n, n < 232 → (LAY n).1 = 4 → (LAY n).2 = 3 ∧ (n = 3 ∨ n = 37 ∨ n = 70 ∨ n = 103) := by decide +kernel
theorem arr5_tab : ∀ n, n < 232 → (LAY n).1 = 5 → (LAY n).2 = 3 ∧ n = 34 := by decide +kernel
def RfO (μ : Mem) (q : Nat × Nat) : Prop := ∀ f : Nat, f < NF q.2 → tgOf (TYS q.2 f) = 2 → μ q.1 f = (q.1 : Int) + OFF q.2 f
theorem wl_f : ∀ f, f < 11 → tgOf (TYS 9 f) = 2 → f = 0 ∨ f = 1 := by decide +kernel
theorem hb_f : ∀ f, f < 14 → tgOf (TYS 10 f) = 2 → f < 13 := by decide +kernel
theorem rf_wl {k : Nat} {μ : Mem} (h : WlK k μ) : RfO μ (k, 9) := fun f hf ht => by
  rcases wl_f f hf ht with rfl | rfl
  · exact h.1.2.1
  · exact h.1.2.2
theorem rf_hb {μ : Mem} (h : HbK μ) : RfO μ (0, 10) := fun f hf ht => by
  show μ ((0 : Nat) : Int) f = ((0 : Nat) : Int) + OFF 10 f
  rw [show ((0 : Nat) : Int) = 0 from rfl, h.1 f (hb_f f hf ht)]
  omega
theorem rf_all {μ : Mem} (h : HbK μ) (hm : MdK 201 μ) : ∀ q ∈ objL, RfO μ q := by
  have rh := rf_hb h
  obtain ⟨q1, q2, q3, q4, ⟨q5, q6, q7⟩, q8, q9, q10, q11, q12, q13, q14, q15, q16, q17, q18⟩ := h
  exact List.forall_mem_cons.mpr ⟨rh, List.forall_mem_cons.mpr ⟨rf_wl q3, List.forall_mem_cons.mpr ⟨(q3.2.2.2 0 (by decide)).1.1, List.forall_mem_cons.mpr ⟨(q3.2.2.2 1 (by decide)).1.1, List.forall_mem_cons.mpr ⟨(q3.2.2.2 2 (by decide)).1.1, List.forall_mem_cons.mpr ⟨rf_wl q5, List.forall_mem_cons.mpr ⟨(q5.2.2.2 0 (by decide)).1.1, List.forall_mem_cons.mpr ⟨(q5.2.2.2 1 (by decide)).1.1, List.forall_mem_cons.mpr ⟨(q5.2.2.2 2 (by decide)).1.1, List.forall_mem_cons.mpr ⟨rf_wl q6, List.forall_mem_cons.mpr ⟨(q6.2.2.2 0 (by decide)).1.1, List.forall_mem_cons.mpr ⟨(q6.2.2.2 1 (by decide)).1.1, List.forall_mem_cons.mpr ⟨(q6.2.2.2 2 (by decide)).1.1, List.forall_mem_cons.mpr ⟨rf_wl q7, List.forall_mem_cons.mpr ⟨(q7.2.2.2 0 (by decide)).1.1, List.forall_mem_cons.mpr ⟨(q7.2.2.2 1 (by decide)).1.1, List.forall_mem_cons.mpr ⟨(q7.2.2.2 2 (by decide)).1.1, List.forall_mem_cons.mpr ⟨q9.1.1, List.forall_mem_cons.mpr ⟨q10.1.1, List.forall_mem_cons.mpr ⟨q11.1.1, List.forall_mem_cons.mpr ⟨q12.1.1, List.forall_mem_cons.mpr ⟨q13.1.1, List.forall_mem_cons.mpr ⟨q14.1.1, List.forall_mem_cons.mpr ⟨q15.1.1, List.forall_mem_cons.mpr ⟨q16.1.1, List.forall_mem_cons.mpr ⟨q17.1.1, List.forall_mem_cons.mpr ⟨q18.1.1, List.forall_mem_cons.mpr ⟨hm.1.1, fun _ h => absurd h List.not_mem_nil⟩⟩⟩⟩⟩⟩⟩⟩⟩⟩⟩⟩⟩⟩⟩⟩⟩⟩⟩⟩⟩⟩⟩⟩⟩⟩⟩⟩
theorem Lk_init {μ : Mem} (h : HbK μ) (hm : MdK 201 μ) : Lk μ := by
  have ra := rf_all h hm
  refine ⟨fun z ci f hz hf ht => ?_, fun z j hz => ?_, fun z j hz => ?_⟩
  · obtain ⟨⟨z0, z1⟩, hl⟩ := hz
    have e1 : (LAY z.toNat).1 = ci + 10 := by rw [hl]
    have t := obj_tab z.toNat (by omega) (by omega)
    rw [e1, show ci + 10 - 10 = ci by omega] at t
    have r := ra _ t f hf ht
    have ez : ((z.toNat : Nat) : Int) = z := Int.toNat_of_nonneg z0
    have r2 : μ ((z.toNat : Nat) : Int) f = ((z.toNat : Nat) : Int) + OFF ci f := r
    rw [ez] at r2
    exact r2
  · obtain ⟨⟨z0, z1⟩, hl, j0, j1⟩ := hz
    have t := arr4_tab z.toNat (by omega) hl
    rw [t.1] at j1
    obtain ⟨q1, q2, q3, q4, ⟨q5, q6, q7⟩, -⟩ := h
    have key : ∀ k : Nat, WlK k μ → z = (k : Int) + 2 → μ z j = z + 1 + 10 * j := fun k w e => by
      have r := w.2.2.1 j.toNat (by omega)
      rw [Int.toNat_of_nonneg j0, ← e] at r
      rw [r]
      omega
    rcases t.2 with e | e | e | e
    · exact key 1 q3 (by omega)
    · exact key 35 q5 (by omega)
    · exact key 68 q6 (by omega)
    · exact key 101 q7 (by omega)
  · obtain ⟨⟨z0, z1⟩, hl, j0, j1⟩ := hz
    have t := arr5_tab z.toNat (by omega) hl
    rw [t.1] at j1
    obtain ⟨q1, q2, q3, q4, -⟩ := h
    have ez : z = 34 := by omega
    have r := q4 j.toNat (by omega)
    rw [Int.toNat_of_nonneg j0] at r
    rw [ez, r]
    omega
theorem gm_init {k : Nat} {μ : Mem} (h : GmK k μ) : GInv μ k := by
  obtain ⟨h1, h2, h3⟩ := h
  have e5 : μ k 5 = 0 := h1.2 5 (by decide) (by decide +kernel)
  have z3 : μ ((k : Int) + 3) = fun _ => 0 := h2 _ (by omega) (by omega) (by omega)
  refine ⟨h3, fun i _ _ => by rw [z3]; exact rr32 (show -1000000 ≤ (0 : Int) ∧ (0 : Int) ≤ 1000000 by omega), by rw [e5]; omega, fun q => by rw [e5] at q; omega⟩
theorem wl_n {k : Nat} {μ : Mem} (h : WlK k μ) {g : Int} (g0 : 2 ≤ g) (g1 : g < 11) : μ k g = if g = 4 then -1 else 0 := by
  have r := h.1.1 g.toNat (by omega) (by omega)
  rw [Int.toNat_of_nonneg (by omega)] at r
  rw [r]
  by_cases c : g = 4
  · rw [if_pos c, if_pos (by omega)]
  · rw [if_neg c, if_neg (by omega)]
theorem clip_00 {f : Int → Int} : clip 0 f = fun _ => 0 := by
  funext j
  unfold clip
  rw [if_neg (by omega)]
theorem Inv_init {μ : Mem} (h : HbK μ) (hm : MdK 201 μ) : Inv 0 μ := by
  obtain ⟨q1, q2, q3, q4, ⟨q5, q6, q7⟩, q8, q9, q10, q11, q12, q13, q14, q15, q16, q17, q18⟩ := h
  obtain ⟨m1, m2, m3⟩ := hm
  have w : ∀ g : Int, 2 ≤ g → g < 11 → μ 1 g = if g = 4 then -1 else 0 := fun g g0 g1 => wl_n q3 g0 g1
  have w2 : μ 1 2 = 0 := by rw [w 2 (by omega) (by omega), if_neg (by omega)]
  have w5 : μ 1 5 = 0 := by rw [w 5 (by omega) (by omega), if_neg (by omega)]
  have w6 : μ 1 6 = 0 := by rw [w 6 (by omega) (by omega), if_neg (by omega)]
  have by_ : ∀ z : Int, μ z = (fun _ => 0) → BY μ z := fun z e j _ _ => by rw [e]; exact ⟨by show (-128 : Int) ≤ 0; omega, by show (0 : Int) ≤ 127; omega⟩
  have n9 : μ 186 9 = 0 := q16.1.2 9 (by decide) (by decide +kernel)
  have n10 : μ 186 10 = 0 := q16.1.2 10 (by decide) (by decide +kernel)
  have p4 : μ 178 4 = 0 := q14.1.2 4 (by decide) (by decide +kernel)
  have p5 : μ 178 5 = 0 := q14.1.2 5 (by decide) (by decide +kernel)
  have a : ∀ j : Int, μ 202 j = if j = 4 then -1 else 0 := m3
  have a0 : μ 202 0 = 0 := by rw [a, if_neg (by omega)]
  have a2 : μ 202 2 = 0 := by rw [a, if_neg (by omega)]
  have hs : μ 203 = fun _ => 0 := m2 203 (by omega) (by omega)
  have t2 : μ 2 = fun _ => 0 := q3.2.1
  refine ⟨⟨fun _ => tv0, by omega, by rw [q2]; omega, ⟨by unfold isW; simp, by rw [w2]; omega, by rw [w5]; omega, by rw [w6]; omega, fun f f0 f1 => ?_, fun i i0 i1 => by rw [w5] at i1; omega⟩, by_ 2 t2, fun k k0 k1 => ⟨by rw [q8]; exact Or.inl rfl, ?_, fun e => by rw [q8] at e; exact absurd (show (0 : Int) = 1 from e) (by omega)⟩, gm_init q12, gm_init q13, ⟨by rw [n9, q2]; omega, by rw [n10]; omega, fun q => by rw [n10] at q; omega⟩, ⟨by rw [p4, q2]; omega, by rw [p5]; omega, fun q => by rw [p5] at q; omega⟩⟩, ⟨fun i i0 i1 => ?_, fun k k0 k1 e => ?_⟩, ?_⟩
  · rw [w f f0 (by omega)]
    split
    · exact rr32 (by omega)
    · exact rr32 (by omega)
  · rcases (show k = 0 ∨ k = 1 ∨ k = 2 by omega) with rfl | rfl | rfl
    · exact by_ 36 q5.2.1
    · exact by_ 69 q6.2.1
    · exact by_ 102 q7.2.1
  · rw [st_3, w5] at i1
    omega
  · have ek : (stC μ).2.1 k = μ 134 k := clip_in (n := 3) (j := k) (f := μ 134) k0 k1
    rw [ek, q8] at e
    exact absurd (show (0 : Int) = 1 from e) (by omega)
  · refine Prod.ext (Prod.ext ?_ (Prod.ext ?_ ?_)) (Prod.ext ?_ ?_)
    · show clip (μ 202 (0 + 2)) (fun j => μ 202 (0 + 10 + j)) = clip (μ 1 2) (fun j => μ (1 + 1) j % 256)
      rw [show (0 : Int) + 2 = 2 by omega, a2, w2, clip_00, clip_00]
    · show clip 9 (fun k => μ 202 (0 + nmM k)) = clip 9 (fun f => μ 1 (f + 2))
      refine clip_ext fun f f0 f1 => ?_
      show μ 202 (0 + nmM f) = μ 1 (f + 2)
      rw [a, w (f + 2) (by omega) (by omega)]
      unfold nmM
      by_cases c : f = 2
      · rw [c, if_pos (by omega), if_pos (by omega)]
      · rw [if_neg (show ¬ f + 2 = 4 by omega)]
        by_cases c1 : f < 3
        · rw [if_pos c1, if_neg (by omega)]
        · rw [if_neg c1]
          by_cases c2 : f < 5
          · rw [if_pos c2, if_neg (by omega)]
          · rw [if_neg c2, if_neg (by omega)]
    · funext i
      show (if 0 ≤ i ∧ i < μ 202 0 then tmF (μ 202) (0 + 510 + 260 * i) else tv0) = if 0 ≤ i ∧ i < μ 1 5 then tv μ (1 + 3 + 10 * i) else tv0
      rw [a0, w5, if_neg (by omega), if_neg (by omega)]
    · show clip 3 (μ 203) = clip 3 (μ 134)
      rw [hs, q8]
    · funext k
      show (if 0 ≤ k ∧ k < 3 ∧ μ 203 k = 1 then wmF (μ 202) (1290 * (k + 1)) else wv0) = if 0 ≤ k ∧ k < 3 ∧ μ 134 k = 1 then wvC μ (35 + 33 * k) else wv0
      rw [hs, q8, if_neg (fun q => absurd (show (0 : Int) = 1 from q.2.2) (by omega)), if_neg (fun q => absurd (show (0 : Int) = 1 from q.2.2) (by omega))]
