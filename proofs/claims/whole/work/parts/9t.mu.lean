theorem la_X9 : ∀ k ∈ ([1, 35, 68, 101] : List Nat), LAY k = (19, 11) ∧ LAY (k + 1) = (2, 500) ∧ LAY (k + 2) = (4, 3) ∧ (LAY (k + 3) = (17, 18) ∧ k + 3 ∈ ([4, 14, 24, 38, 48, 58, 71, 81, 91, 104, 114, 124, 135] : List Nat)) ∧ (LAY (k + 13) = (17, 18) ∧ k + 13 ∈ ([4, 14, 24, 38, 48, 58, 71, 81, 91, 104, 114, 124, 135] : List Nat)) ∧ (LAY (k + 23) = (17, 18) ∧ k + 23 ∈ ([4, 14, 24, 38, 48, 58, 71, 81, 91, 104, 114, 124, 135] : List Nat)) := by decide +kernel
set_option maxRecDepth 20000 in
theorem ct_X9_init : Ct mX9_init 2 32 32 1466 S_W9 := by
  refine ct_of (own := RX9) (by decide +kernel) rfl ?_ ?_
  · intro n as μ Q hS
    obtain ⟨k, rfl, -⟩ := hS
    exact Nat.le_of_ble_eq_true rfl
  · intro G n as μ Q hS
    obtain ⟨k, rfl, hz, rfl, h0, hQ⟩ := hS
    obtain ⟨hK, hT, hA, ⟨hL0, hM0⟩, ⟨hL1, hM1⟩, hL2, hM2⟩ := la_X9 k hz
    refine k_aload_n (i := 0) (v := kR k) (Nat.le_refl 2) rfl (by decide +kernel) ?_
    refine k_objinit (idx := 3) (by omega) (in_ok (i := 30) (by decide +kernel) rfl) (in_ok (i := 23) (by decide +kernel) rfl) (in_ok (i := 24) (by decide +kernel) rfl) (by decide) (by decide) rfl (by decide +kernel) ?_
    refine k_aload_n (i := 0) (v := kR k) (Nat.le_refl 2) rfl (by decide +kernel) ?_
    refine k_sipush (c := 500) (by omega) (by decide +kernel) ?_
    refine k_newarray (a := .byte) (N := 500) rfl (by omega) (by decide) AR_byte hT (by omega) (by omega) (by decide +kernel) ?_
    refine kq_put (ci := 9) (f := 0) (idx := 9) (pk_f (i := 142) (RX9, TX9, 11) rfl (by decide) rfl rfl (by decide +kernel) rfl rfl) hK (by omega) (by decide) rfl trivial (by decide +kernel) ?_
    refine vc_gen (AR k (k + 1) 0 (fun _ => 0) μ) (st_ar (by omega)) (fun m1 h1 => ?_)
    refine k_aload_n (i := 0) (v := kR k) (Nat.le_refl 2) rfl (by decide +kernel) ?_
    refine k_iconst (c := 3) (by decide +kernel) ?_
    refine k_anewarray (idx := 15) (kd := 4) (N := 3) rfl (by omega) (Or.inl ⟨rfl, in_ok (i := 31) (by decide +kernel) rfl⟩) hA (by omega) (by omega) (by decide +kernel) ?_
    refine kq_put (ci := 9) (f := 1) (idx := 17) (pk_f (i := 144) (RX9, TX9, 11) rfl (by decide) rfl rfl (by decide +kernel) rfl rfl) hK (by omega) (by decide) rfl trivial (by decide +kernel) ?_
    refine vc_gen (AR k (k + 2) 1 (fun _ => -1) m1) (st_ar (by omega)) (fun m2 h2 => ?_)
    refine k_iconst (c := 0) (by decide +kernel) ?_
    refine k_istore_n (i := 1) (by decide) (by decide +kernel) ?_
    show Vc mX9_init RX9 2 32 32 1466 G (k + 1) Q 23 [(1, kI 0), (0, kR k)] [] m2 (k + 3) 503
    have t0 : m2 k ((1 : Nat) : Int) = ((k + 2 : Nat) : Int) := by rw [show ((1 : Nat) : Int) = 1 from rfl, h2.2.1 1, if_pos rfl]
    refine k_iload_n (i := 1) (z := 0) rfl (by decide +kernel) ?_
    refine k_iconst (c := 3) (by decide +kernel) ?_
    refine k_icmp_ge (off := 22) (tgt := 47) (rr32 (by omega)) (rr32 (by omega)) (by decide) (by decide +kernel) (fun c => absurd (show (3 : Int) ≤ 0 from c) (by decide)) (fun _ => ?_)
    refine k_aload_n (i := 0) (v := kR k) (Nat.le_refl 2) rfl (by decide +kernel) ?_
    refine kq_get (w := ((k + 2 : Nat) : Int)) (idx := 17) (ci := 9) (f := 1) (ff_f (i := 144) (RX9, TX9, 11) rfl (by decide) rfl (by decide +kernel)) hK (by omega) (by decide) rfl t0 (by decide +kernel) ?_
    refine k_iload_n (i := 1) (z := 0) rfl (by decide +kernel) ?_
    refine k_new (ci := 7) (N := 18) (idx := 15) (nw_c (i := 31) (j := 33) (k := 3) (RX7, TX7, 18) rfl rfl (by decide +kernel) (by decide +kernel) (by decide +kernel)) hL0 (by omega) (by omega) (by decide +kernel) ?_
    refine k_dup (show (2 : Nat) ≠ 1 by decide) (by decide +kernel) ?_
    refine k_callI (as := []) (z := ((k + 3 : Nat) : Int)) (st := [kR ((k + 3 : Nat) : Int), kI 0, kR ((k + 2 : Nat) : Int)]) ct_X7_init mmX7_init iiX7_init rfl rfl lkX9_21 ⟨by decide, by decide⟩ rfl (by omega) ⟨by omega, by omega⟩ (Nat.le_of_ble_eq_true rfl) (by decide +kernel) (S_ini_mk (k + 3) rfl hM0 rfl rs_eq (fun q0 f0 o0 => ?_))
    show Vc mX9_init RX9 2 32 32 1466 G (k + 1) Q 40 [(1, kI 0), (0, kR k)] [kR ((k + 3 : Nat) : Int), kI 0, kR ((k + 2 : Nat) : Int)] q0 (k + 3 + 10) 824
    refine kq_ast (ci := 7) (Or.inl ⟨rfl, rfl⟩) hA (by omega) (by omega) (by omega) hL0 (by omega) (by decide) (by decide +kernel) ?_
    refine vc_gen (OB (ObK 7 9 (k + 3)) 9 (k + 2) (k + 3) 0 m2) (st_ob (loc_ob 7 9 (k + 3)) f0 o0 (by omega)) (fun m3 h3 => ?_)
    refine k_iinc (i := 1) (c := 1) (z := 0) rfl (by decide) (by decide +kernel) ?_
    refine k_goto (off := (-21)) (tgt := 23) (by decide) (by decide +kernel) ?_
    show Vc mX9_init RX9 2 32 32 1466 G (k + 1) Q 23 [(1, kI 1), (0, kR k)] [] m3 (k + 13) 824
    have t1 : m3 k ((1 : Nat) : Int) = ((k + 2 : Nat) : Int) := by rw [h3.1 k (by omega) (by omega), show ((1 : Nat) : Int) = 1 from rfl, h2.2.1 1, if_pos rfl]
    refine k_iload_n (i := 1) (z := 1) rfl (by decide +kernel) ?_
    refine k_iconst (c := 3) (by decide +kernel) ?_
    refine k_icmp_ge (off := 22) (tgt := 47) (rr32 (by omega)) (rr32 (by omega)) (by decide) (by decide +kernel) (fun c => absurd (show (3 : Int) ≤ 1 from c) (by decide)) (fun _ => ?_)
    refine k_aload_n (i := 0) (v := kR k) (Nat.le_refl 2) rfl (by decide +kernel) ?_
    refine kq_get (w := ((k + 2 : Nat) : Int)) (idx := 17) (ci := 9) (f := 1) (ff_f (i := 144) (RX9, TX9, 11) rfl (by decide) rfl (by decide +kernel)) hK (by omega) (by decide) rfl t1 (by decide +kernel) ?_
    refine k_iload_n (i := 1) (z := 1) rfl (by decide +kernel) ?_
    refine k_new (ci := 7) (N := 18) (idx := 15) (nw_c (i := 31) (j := 33) (k := 3) (RX7, TX7, 18) rfl rfl (by decide +kernel) (by decide +kernel) (by decide +kernel)) hL1 (by omega) (by omega) (by decide +kernel) ?_
    refine k_dup (show (2 : Nat) ≠ 1 by decide) (by decide +kernel) ?_
    refine k_callI (as := []) (z := ((k + 13 : Nat) : Int)) (st := [kR ((k + 13 : Nat) : Int), kI 1, kR ((k + 2 : Nat) : Int)]) ct_X7_init mmX7_init iiX7_init rfl rfl lkX9_21 ⟨by decide, by decide⟩ rfl (by omega) ⟨by omega, by omega⟩ (Nat.le_of_ble_eq_true rfl) (by decide +kernel) (S_ini_mk (k + 13) rfl hM1 rfl rs_eq (fun q1 f1 o1 => ?_))
    show Vc mX9_init RX9 2 32 32 1466 G (k + 1) Q 40 [(1, kI 1), (0, kR k)] [kR ((k + 13 : Nat) : Int), kI 1, kR ((k + 2 : Nat) : Int)] q1 (k + 13 + 10) 1145
    refine kq_ast (ci := 7) (Or.inl ⟨rfl, rfl⟩) hA (by omega) (by omega) (by omega) hL1 (by omega) (by decide) (by decide +kernel) ?_
    refine vc_gen (OB (ObK 7 9 (k + 13)) 9 (k + 2) (k + 13) 1 m3) (st_ob (loc_ob 7 9 (k + 13)) f1 o1 (by omega)) (fun m4 h4 => ?_)
    refine k_iinc (i := 1) (c := 1) (z := 1) rfl (by decide) (by decide +kernel) ?_
    refine k_goto (off := (-21)) (tgt := 23) (by decide) (by decide +kernel) ?_
    show Vc mX9_init RX9 2 32 32 1466 G (k + 1) Q 23 [(1, kI 2), (0, kR k)] [] m4 (k + 23) 1145
    have t2 : m4 k ((1 : Nat) : Int) = ((k + 2 : Nat) : Int) := by rw [h4.1 k (by omega) (by omega), h3.1 k (by omega) (by omega), show ((1 : Nat) : Int) = 1 from rfl, h2.2.1 1, if_pos rfl]
    refine k_iload_n (i := 1) (z := 2) rfl (by decide +kernel) ?_
    refine k_iconst (c := 3) (by decide +kernel) ?_
    refine k_icmp_ge (off := 22) (tgt := 47) (rr32 (by omega)) (rr32 (by omega)) (by decide) (by decide +kernel) (fun c => absurd (show (3 : Int) ≤ 2 from c) (by decide)) (fun _ => ?_)
    refine k_aload_n (i := 0) (v := kR k) (Nat.le_refl 2) rfl (by decide +kernel) ?_
    refine kq_get (w := ((k + 2 : Nat) : Int)) (idx := 17) (ci := 9) (f := 1) (ff_f (i := 144) (RX9, TX9, 11) rfl (by decide) rfl (by decide +kernel)) hK (by omega) (by decide) rfl t2 (by decide +kernel) ?_
    refine k_iload_n (i := 1) (z := 2) rfl (by decide +kernel) ?_
    refine k_new (ci := 7) (N := 18) (idx := 15) (nw_c (i := 31) (j := 33) (k := 3) (RX7, TX7, 18) rfl rfl (by decide +kernel) (by decide +kernel) (by decide +kernel)) hL2 (by omega) (by omega) (by decide +kernel) ?_
    refine k_dup (show (2 : Nat) ≠ 1 by decide) (by decide +kernel) ?_
    refine k_callI (as := []) (z := ((k + 23 : Nat) : Int)) (st := [kR ((k + 23 : Nat) : Int), kI 2, kR ((k + 2 : Nat) : Int)]) ct_X7_init mmX7_init iiX7_init rfl rfl lkX9_21 ⟨by decide, by decide⟩ rfl (by omega) ⟨by omega, by omega⟩ (Nat.le_of_ble_eq_true rfl) (by decide +kernel) (S_ini_mk (k + 23) rfl hM2 rfl rs_eq (fun q2 f2 o2 => ?_))
    show Vc mX9_init RX9 2 32 32 1466 G (k + 1) Q 40 [(1, kI 2), (0, kR k)] [kR ((k + 23 : Nat) : Int), kI 2, kR ((k + 2 : Nat) : Int)] q2 (k + 23 + 10) 1466
    refine kq_ast (ci := 7) (Or.inl ⟨rfl, rfl⟩) hA (by omega) (by omega) (by omega) hL2 (by omega) (by decide) (by decide +kernel) ?_
    refine vc_gen (OB (ObK 7 9 (k + 23)) 9 (k + 2) (k + 23) 2 m4) (st_ob (loc_ob 7 9 (k + 23)) f2 o2 (by omega)) (fun m5 h5 => ?_)
    refine k_iinc (i := 1) (c := 1) (z := 2) rfl (by decide) (by decide +kernel) ?_
    refine k_goto (off := (-21)) (tgt := 23) (by decide) (by decide +kernel) ?_
    show Vc mX9_init RX9 2 32 32 1466 G (k + 1) Q 23 [(1, kI 3), (0, kR k)] [] m5 (k + 33) 1466
    refine k_iload_n (i := 1) (z := 3) rfl (by decide +kernel) ?_
    refine k_iconst (c := 3) (by decide +kernel) ?_
    refine k_icmp_ge (off := 22) (tgt := 47) (rr32 (by omega)) (rr32 (by omega)) (by decide) (by decide +kernel) (fun _ => ?_) (fun c => absurd (show (3 : Int) ≤ 3 by decide) c)
    refine k_aload_n (i := 0) (v := kR k) (Nat.le_refl 2) rfl (by decide +kernel) ?_
    refine k_iconst (c := (-1)) (by decide +kernel) ?_
    refine kq_puti (ci := 9) (f := 4) (idx := 22) (pk_n (i := 149) (RX9, TX9, 11) rfl (by decide) rfl rfl (by decide +kernel)) hK (by omega) (by decide) rfl trivial (by decide +kernel) ?_
    refine k_return rfl (by omega) rfl (by decide +kernel) ?_
    have back : ∀ y : Int, y ≠ k → y ≠ (k : Int) + 2 → (y < (k : Int) + 3 ∨ (k : Int) + 32 < y) → m5 y = m2 y := fun y y0 y1 y2 => by rw [h5.1 y (by omega) (by omega), h4.1 y (by omega) (by omega), h3.1 y (by omega) (by omega)]
    have rk : m5 k = m2 k := by rw [h5.1 k (by omega) (by omega), h4.1 k (by omega) (by omega), h3.1 k (by omega) (by omega)]
    refine hQ _ (fun y hy => ?_) ⟨⟨fun g g0 g1 => ?_, ?_, ?_⟩, ?_, fun j hj => ?_, fun j hj => ?_⟩
    · rw [ru_ne (by omega), back y (by omega) (by omega) (by omega), h2.1 y (by omega) (by omega), h1.1 y (by omega) (by omega)]
    · rw [ru_eq]
      by_cases e : g = 4
      · rw [if_pos e, e]; exact r1_eq
      · rw [if_neg e, r1_ne (show (g : Int) ≠ ((4 : Nat) : Int) by omega), rk, h2.2.1 g, if_neg (by omega), h1.2.1 g, if_neg (by omega), h0]
        exact dfl9 g g1 g0
    · rw [ru_eq, r1_ne (show (0 : Int) ≠ ((4 : Nat) : Int) by omega), rk, h2.2.1 0, if_neg (by omega), h1.2.1 0, if_pos rfl]; omega
    · rw [ru_eq, r1_ne (show (1 : Int) ≠ ((4 : Nat) : Int) by omega), rk, h2.2.1 1, if_pos rfl]; omega
    · rw [ru_ne (by omega), back _ (by omega) (by omega) (by omega), h2.1 _ (by omega) (by omega)]; exact h1.2.2
    · rw [ru_ne (show (k : Int) + 2 ≠ k by omega)]
      have e5 := h5.2.1 j
      have e4 := h4.2.1 j
      have e3 := h3.2.1 j
      rw [show ((k + 2 : Nat) : Int) = (k : Int) + 2 by omega] at e5 e4 e3
      rw [e5, e4, e3]
      rcases (show j = 0 ∨ j = 1 ∨ j = 2 by omega) with rfl | rfl | rfl
      · rw [if_neg (by omega), if_neg (by omega), if_pos (by omega)]; omega
      · rw [if_neg (by omega), if_pos (by omega)]; omega
      · rw [if_pos (by omega)]; omega
    · rcases (show j = 0 ∨ j = 1 ∨ j = 2 by omega) with rfl | rfl | rfl
      · exact ob_frame h3.2.2 (fun y y0 y1 => by rw [ru_ne (by omega), h5.1 y (by omega) (by omega), h4.1 y (by omega) (by omega)])
      · exact ob_frame h4.2.2 (fun y y0 y1 => by rw [ru_ne (by omega), h5.1 y (by omega) (by omega)])
      · exact ob_frame h5.2.2 (fun y y0 y1 => by rw [ru_ne (by omega)])
theorem la_X0 : ∀ k ∈ ([156, 167] : List Nat), LAY k = (10, 19) ∧ arrsB (k + 1) [(0, 4), (0, 96), (0, 96), (0, 4), (0, 4), (0, 96), (1, 2024), (1, 9), (1, 4), (1, 4)] = true := by decide +kernel
/-- the loop that fills choices has come to i -/
def GL (k i : Nat) (m m' : Mem) : Prop := (∀ y : Int, y ≠ (k : Int) + 6 → m' y = m y) ∧ ∀ t n : Int, 1 ≤ t → t ≤ 3 → 0 ≤ n → n < i → m' ((k : Int) + 6) (t * 24 + n) = chV t n
theorem GL_0 (k : Nat) (m : Mem) : GL k 0 m m := ⟨fun _ _ => rfl, fun t n _ _ n0 n1 => by omega⟩
theorem GL_s {k i : Nat} {m m' : Mem} (hi : i < 24) (h : GL k i m m') : GL k (i + 1) m (updm (updm (updm m' ((k + 6 : Nat) : Int) (24 + (i : Int)) i) ((k + 6 : Nat) : Int) (48 + (i : Int)) (((i : Int) * ((i : Int) - 1)).tdiv 2)) ((k + 6 : Nat) : Int) (72 + (i : Int)) (((i : Int) * ((i : Int) - 1) * ((i : Int) - 2)).tdiv 6)) := by
  obtain ⟨h1, h2⟩ := h
  obtain ⟨⟨n2, n3⟩, -, -⟩ := g0_num i hi
  refine ⟨fun y hy => by rw [ru_ne (by omega), ru_ne (by omega), ru_ne (by omega)]; exact h1 y hy, fun t n t0 t1 n0 n1 => ?_⟩
  rw [show (k : Int) + 6 = ((k + 6 : Nat) : Int) by omega, ru_eq, n2, n3]
  have e6 := h2 t n t0 t1 n0
  rw [show (k : Int) + 6 = ((k + 6 : Nat) : Int) by omega] at e6
  by_cases c3 : t * 24 + n = 72 + (i : Int)
  · have et : t = 3 := by omega
    have en : n = (i : Int) := by omega
    rw [c3, r1_eq, et, en]
  · rw [r1_ne c3, ru_eq]
    by_cases c2 : t * 24 + n = 48 + (i : Int)
    · have et : t = 2 := by omega
      have en : n = (i : Int) := by omega
      rw [c2, r1_eq, et, en]
    · rw [r1_ne c2, ru_eq]
      by_cases c1 : t * 24 + n = 24 + (i : Int)
      · have et : t = 1 := by omega
        have en : n = (i : Int) := by omega
        rw [c1, r1_eq, et, en]
        unfold chV
        rw [if_pos rfl]
      · rw [r1_ne c1]
        exact e6 (by omega)
set_option maxRecDepth 20000 in
theorem vc_G0_51 {G : Cxt} {n : Nat} {Q : Mem → Option AV → Prop} {k : Nat} {μ : Mem} (hn : k + 1 = n) (hK : LAY k = (10, 19)) (h6 : LAY (k + 6) = (0, 96)) (hm : μ k ((8 : Nat) : Int) = ((k + 6 : Nat) : Int)) (fin : ∀ m : Mem, GL k 24 μ m → Vc mX0_init RX0 1 12 10 2341 G n Q 110 [(1, kI 24), (0, kR k)] [] m (n + 6) 300) : ∀ (d i : Nat), i + d = 24 → ∀ m : Mem, GL k i μ m → Vc mX0_init RX0 1 12 10 2341 G n Q 51 [(1, kI (i : Int)), (0, kR k)] [] m (n + 6) 300 := by
  intro d
  induction d with
  | zero =>
    intro i hi m h
    have e : i = 24 := by omega
    subst e
    refine k_iload_n (i := 1) (z := ((24 : Nat) : Int)) rfl (by decide +kernel) ?_
    refine k_bipush (c := 24) (by omega) (by decide +kernel) ?_
    refine k_icmp_ge (off := 56) (tgt := 110) (rr32 (by omega)) (rr32 (by omega)) (by decide) (by decide +kernel) (fun _ => fin m h) (fun c => absurd (show (24 : Int) ≤ ((24 : Nat) : Int) by omega) c)
  | succ d ih =>
    intro i hi m h
    have i24 : i < 24 := by omega
    obtain ⟨-, b2, b3⟩ := g0_num i i24
    have e8 : m k ((8 : Nat) : Int) = ((k + 6 : Nat) : Int) := by rw [h.1 k (by omega)]; exact hm
    refine k_iload_n (i := 1) (z := (i : Int)) rfl (by decide +kernel) ?_
    refine k_bipush (c := 24) (by omega) (by decide +kernel) ?_
    refine k_icmp_ge (off := 56) (tgt := 110) (rr32 (by omega)) (rr32 (by omega)) (by decide) (by decide +kernel) (fun c => absurd (show (24 : Int) ≤ (i : Int) from c) (by omega)) (fun _ => ?_)
    refine k_aload_n (i := 0) (v := kR k) (Nat.le_refl 2) rfl (by decide +kernel) ?_
    refine kq_get (w := ((k + 6 : Nat) : Int)) (idx := 27) (ci := 0) (f := 8) (ff_f (i := 280) (RX0, TX0, 19) rfl (by decide) rfl (by decide +kernel)) hK (by omega) (by decide) rfl e8 (by decide +kernel) ?_
    refine k_bipush (c := 24) (by omega) (by decide +kernel) ?_
    refine k_iload_n (i := 1) (z := (i : Int)) rfl (by decide +kernel) ?_
    refine k_iadd (by decide +kernel) ?_
    refine k_iload_n (i := 1) (z := (i : Int)) rfl (by decide +kernel) ?_
    refine kq_ist h6 (by omega) (by omega) (by omega) (by decide +kernel) ?_
    refine k_aload_n (i := 0) (v := kR k) (Nat.le_refl 2) rfl (by decide +kernel) ?_
    refine kq_get (w := ((k + 6 : Nat) : Int)) (idx := 27) (ci := 0) (f := 8) (ff_f (i := 280) (RX0, TX0, 19) rfl (by decide) rfl (by decide +kernel)) hK (by omega) (by decide) rfl (by rw [ru_ne (by omega)]; exact e8) (by decide +kernel) ?_
    refine k_bipush (c := 48) (by omega) (by decide +kernel) ?_
    refine k_iload_n (i := 1) (z := (i : Int)) rfl (by decide +kernel) ?_
    refine k_iadd (by decide +kernel) ?_
    refine k_iload_n (i := 1) (z := (i : Int)) rfl (by decide +kernel) ?_
    refine k_iload_n (i := 1) (z := (i : Int)) rfl (by decide +kernel) ?_
    refine k_iconst (c := 1) (by decide +kernel) ?_
    refine k_isub (by decide +kernel) ?_
    refine k_imul (by decide +kernel) ?_
    refine k_iconst (c := 2) (by decide +kernel) ?_
    refine k_idiv (rr32 b2) (rr32 (by omega)) (by decide) (by decide +kernel) ?_
    refine kq_ist h6 (by omega) (by omega) (by omega) (by decide +kernel) ?_
    refine k_aload_n (i := 0) (v := kR k) (Nat.le_refl 2) rfl (by decide +kernel) ?_
    refine kq_get (w := ((k + 6 : Nat) : Int)) (idx := 27) (ci := 0) (f := 8) (ff_f (i := 280) (RX0, TX0, 19) rfl (by decide) rfl (by decide +kernel)) hK (by omega) (by decide) rfl (by rw [ru_ne (by omega), ru_ne (by omega)]; exact e8) (by decide +kernel) ?_
    refine k_bipush (c := 72) (by omega) (by decide +kernel) ?_
    refine k_iload_n (i := 1) (z := (i : Int)) rfl (by decide +kernel) ?_
    refine k_iadd (by decide +kernel) ?_
    refine k_iload_n (i := 1) (z := (i : Int)) rfl (by decide +kernel) ?_
    refine k_iload_n (i := 1) (z := (i : Int)) rfl (by decide +kernel) ?_
    refine k_iconst (c := 1) (by decide +kernel) ?_
    refine k_isub (by decide +kernel) ?_
    refine k_imul (by decide +kernel) ?_
    refine k_iload_n (i := 1) (z := (i : Int)) rfl (by decide +kernel) ?_
    refine k_iconst (c := 2) (by decide +kernel) ?_
    refine k_isub (by decide +kernel) ?_
    refine k_imul (by decide +kernel) ?_
    refine k_bipush (c := 6) (by omega) (by decide +kernel) ?_
    refine k_idiv (rr32 b3) (rr32 (by omega)) (by decide) (by decide +kernel) ?_
    refine kq_ist h6 (by omega) (by omega) (by omega) (by decide +kernel) ?_
    refine k_iinc (i := 1) (c := 1) (z := (i : Int)) rfl (by decide) (by decide +kernel) ?_
    refine k_goto (off := (-56)) (tgt := 51) (by decide) (by decide +kernel) ?_
    exact ih (i + 1) (by omega) _ (GL_s i24 h)
set_option maxRecDepth 20000 in
theorem ct_X0_init : Ct mX0_init 1 12 10 2341 S_G0 := by
  refine ct_of (own := RX0) (by decide +kernel) rfl ?_ ?_
  · intro n as μ Q hS
    obtain ⟨k, rfl, -⟩ := hS
    exact Nat.le_of_ble_eq_true rfl
  · intro G n as μ Q hS
    obtain ⟨k, rfl, hz, rfl, h0, hQ⟩ := hS
    obtain ⟨hK, hA⟩ := la_X0 k hz
    generalize hn : k + 1 = n at hA ⊢
    obtain ⟨hL1, hA⟩ := arrs_s hA
    obtain ⟨hL2, hA⟩ := arrs_s hA
    obtain ⟨hL3, hA⟩ := arrs_s hA
    obtain ⟨hL4, hA⟩ := arrs_s hA
    obtain ⟨hL5, hA⟩ := arrs_s hA
    obtain ⟨hL6, hA⟩ := arrs_s hA
    obtain ⟨hL7, hA⟩ := arrs_s hA
    obtain ⟨hL8, hA⟩ := arrs_s hA
    obtain ⟨hL9, hA⟩ := arrs_s hA
    obtain ⟨hL10, hA⟩ := arrs_s hA
    refine k_aload_n (i := 0) (v := kR k) (Nat.le_refl 2) rfl (by decide +kernel) ?_
    refine k_objinit (idx := 3) (by omega) (in_ok (i := 270) (by decide +kernel) rfl) (in_ok (i := 23) (by decide +kernel) rfl) (in_ok (i := 24) (by decide +kernel) rfl) (by decide) (by decide) rfl (by decide +kernel) ?_
    refine k_aload_n (i := 0) (v := kR k) (Nat.le_refl 2) rfl (by decide +kernel) ?_
    refine k_iconst (c := 4) (by decide +kernel) ?_
    refine k_newarray (a := .int) (N := 4) rfl (by omega) (by decide) AR_int hL1 (by omega) (by omega) (by decide +kernel) ?_
    refine k_putfield (idx := 9) (ci := 0) (f := 2) (pk_f (i := 273) (RX0, TX0, 19) rfl (by decide) rfl rfl (by decide +kernel) rfl rfl) (atO_k hK (by omega) (by decide)) trivial (by decide +kernel) ?_
    refine k_aload_n (i := 0) (v := kR k) (Nat.le_refl 2) rfl (by decide +kernel) ?_
    refine k_bipush (c := 96) (by omega) (by decide +kernel) ?_
    refine k_newarray (a := .int) (N := 96) rfl (by omega) (by decide) AR_int hL2 (by omega) (by omega) (by decide +kernel) ?_
    refine k_putfield (idx := 15) (ci := 0) (f := 3) (pk_f (i := 274) (RX0, TX0, 19) rfl (by decide) rfl rfl (by decide +kernel) rfl rfl) (atO_k hK (by omega) (by decide)) trivial (by decide +kernel) ?_
    refine k_aload_n (i := 0) (v := kR k) (Nat.le_refl 2) rfl (by decide +kernel) ?_
    refine k_bipush (c := 96) (by omega) (by decide +kernel) ?_
    refine k_newarray (a := .int) (N := 96) rfl (by omega) (by decide) AR_int hL3 (by omega) (by omega) (by decide +kernel) ?_
    refine k_putfield (idx := 18) (ci := 0) (f := 4) (pk_f (i := 275) (RX0, TX0, 19) rfl (by decide) rfl rfl (by decide +kernel) rfl rfl) (atO_k hK (by omega) (by decide)) trivial (by decide +kernel) ?_
    refine k_aload_n (i := 0) (v := kR k) (Nat.le_refl 2) rfl (by decide +kernel) ?_
    refine k_iconst (c := 4) (by decide +kernel) ?_
    refine k_newarray (a := .int) (N := 4) rfl (by omega) (by decide) AR_int hL4 (by omega) (by omega) (by decide +kernel) ?_
    refine k_putfield (idx := 21) (ci := 0) (f := 6) (pk_f (i := 277) (RX0, TX0, 19) rfl (by decide) rfl rfl (by decide +kernel) rfl rfl) (atO_k hK (by omega) (by decide)) trivial (by decide +kernel) ?_
    refine k_aload_n (i := 0) (v := kR k) (Nat.le_refl 2) rfl (by decide +kernel) ?_
    refine k_iconst (c := 4) (by decide +kernel) ?_
    refine k_newarray (a := .int) (N := 4) rfl (by omega) (by decide) AR_int hL5 (by omega) (by omega) (by decide +kernel) ?_
    refine k_putfield (idx := 24) (ci := 0) (f := 7) (pk_f (i := 278) (RX0, TX0, 19) rfl (by decide) rfl rfl (by decide +kernel) rfl rfl) (atO_k hK (by omega) (by decide)) trivial (by decide +kernel) ?_
    refine k_aload_n (i := 0) (v := kR k) (Nat.le_refl 2) rfl (by decide +kernel) ?_
    refine k_bipush (c := 96) (by omega) (by decide +kernel) ?_
    refine k_newarray (a := .int) (N := 96) rfl (by omega) (by decide) AR_int hL6 (by omega) (by omega) (by decide +kernel) ?_
    refine k_putfield (idx := 27) (ci := 0) (f := 8) (pk_f (i := 280) (RX0, TX0, 19) rfl (by decide) rfl rfl (by decide +kernel) rfl rfl) (atO_k hK (by omega) (by decide)) trivial (by decide +kernel) ?_
    refine vc_gen (fun m => m = mkA k μ n [2, 3, 4, 6, 7, 8]) rfl (fun m1 e1 => ?_)
    have r1 : ∀ (g : Nat) (d : Int), μ k g = d → m1 k g = rdO k d (lkO [2, 3, 4, 6, 7, 8] 1 g none) := fun g d e => by rw [e1]; exact mkA_k [2, 3, 4, 6, 7, 8] μ n 1 g none (by omega) (by omega) e
    have a1 : ∀ y : Int, (k : Int) < y → y ≤ (k : Int) + 6 → m1 y = fun _ => 0 := fun y y0 y1 => by rw [e1]; exact mkA_ar [2, 3, 4, 6, 7, 8] μ n y (by omega) (by omega) (by show y < (n : Int) + 6; omega)
    have b1 : ∀ y : Int, y ≠ k → (y < n ∨ (k : Int) + 6 < y) → m1 y = μ y := fun y y0 y1 => by rw [e1]; exact mkA_lo [2, 3, 4, 6, 7, 8] μ n y y0 (by show y < (n : Int) ∨ (n : Int) + 6 ≤ y; omega)
    have c8 : m1 k ((8 : Nat) : Int) = ((k + 6 : Nat) : Int) := (r1 8 _ rfl).trans (show (k : Int) + ((6 : Nat) : Int) = ((k + 6 : Nat) : Int) by omega)
    have h6 : LAY (k + 6) = (0, 96) := by rw [← hn] at hL6; exact hL6
    refine k_iconst (c := 0) (by decide +kernel) ?_
    refine k_istore_n (i := 1) (by decide) (by decide +kernel) ?_
    refine vc_G0_51 hn hK h6 c8 (fun m2 g2 => ?_) 24 0 (by omega) m1 (GL_0 k m1)
    refine k_aload_n (i := 0) (v := kR k) (Nat.le_refl 2) rfl (by decide +kernel) ?_
    refine k_sipush (c := 2024) (by omega) (by decide +kernel) ?_
    refine k_newarray (a := .long) (N := 2024) rfl (by omega) (by decide) AR_long hL7 (by omega) (by omega) (by decide +kernel) ?_
    refine k_putfield (idx := 30) (ci := 0) (f := 9) (pk_f (i := 281) (RX0, TX0, 19) rfl (by decide) rfl rfl (by decide +kernel) rfl rfl) (atO_k hK (by omega) (by decide)) trivial (by decide +kernel) ?_
    refine k_aload_n (i := 0) (v := kR k) (Nat.le_refl 2) rfl (by decide +kernel) ?_
    refine k_bipush (c := 9) (by omega) (by decide +kernel) ?_
    refine k_newarray (a := .long) (N := 9) rfl (by omega) (by decide) AR_long hL8 (by omega) (by omega) (by decide +kernel) ?_
    refine k_putfield (idx := 34) (ci := 0) (f := 10) (pk_f (i := 282) (RX0, TX0, 19) rfl (by decide) rfl rfl (by decide +kernel) rfl rfl) (atO_k hK (by omega) (by decide)) trivial (by decide +kernel) ?_
    refine k_aload_n (i := 0) (v := kR k) (Nat.le_refl 2) rfl (by decide +kernel) ?_
    refine k_iconst (c := 4) (by decide +kernel) ?_
    refine k_newarray (a := .long) (N := 4) rfl (by omega) (by decide) AR_long hL9 (by omega) (by omega) (by decide +kernel) ?_
    refine k_putfield (idx := 37) (ci := 0) (f := 11) (pk_f (i := 283) (RX0, TX0, 19) rfl (by decide) rfl rfl (by decide +kernel) rfl rfl) (atO_k hK (by omega) (by decide)) trivial (by decide +kernel) ?_
    refine k_aload_n (i := 0) (v := kR k) (Nat.le_refl 2) rfl (by decide +kernel) ?_
    refine k_iconst (c := 4) (by decide +kernel) ?_
    refine k_newarray (a := .long) (N := 4) rfl (by omega) (by decide) AR_long hL10 (by omega) (by omega) (by decide +kernel) ?_
    refine k_putfield (idx := 40) (ci := 0) (f := 12) (pk_f (i := 284) (RX0, TX0, 19) rfl (by decide) rfl rfl (by decide +kernel) rfl rfl) (atO_k hK (by omega) (by decide)) trivial (by decide +kernel) ?_
    refine k_return rfl (by omega) rfl (by decide +kernel) ?_
    refine (fun (F : Q (mkA k m2 (n + 6) [9, 10, 11, 12]) none) => F) ?_
    have lo : ∀ y : Int, y ≠ k → (y < (n : Int) + 6 ∨ (n : Int) + 10 ≤ y) → mkA k m2 (n + 6) [9, 10, 11, 12] y = m2 y := fun y y0 y1 => mkA_lo [9, 10, 11, 12] m2 (n + 6) y y0 (by show y < ((n + 6 : Nat) : Int) ∨ ((n + 6 : Nat) : Int) + 4 ≤ y; omega)
    refine hQ _ (fun y hy => ?_) ⟨?_, fun y y0 y1 y6 => ?_, ?_⟩
    · rw [lo y (by omega) (by omega), g2.1 y (by omega), b1 y (by omega) (by omega)]
    · refine ob_ref (ci := 0) (fs := [2, 3, 4, 6, 7, 8, 9, 10, 11, 12]) (by decide +kernel) h0 (fun g d _ e => ?_)
      exact mkA_k [9, 10, 11, 12] m2 (n + 6) 7 g (lkO [2, 3, 4, 6, 7, 8] 1 g none) (by omega) (by omega) (by rw [g2.1 k (by omega)]; exact r1 g d e)
    · by_cases c : y < (n : Int) + 6
      · rw [lo y (by omega) (by omega), g2.1 y y6]; exact a1 y y0 (by omega)
      · exact mkA_ar [9, 10, 11, 12] m2 (n + 6) y (by omega) (by omega) (by show y < ((n + 6 : Nat) : Int) + 4; omega)
    · intro t i t0 t1 i0 i1
      rw [lo _ (by omega) (by omega)]
      exact g2.2 t i t0 t1 i0 i1
