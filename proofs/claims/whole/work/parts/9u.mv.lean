/-- the object as it is made -/
def HbK (μ : Mem) : Prop := (∀ g : Nat, g < 13 → μ 0 g = OFF 10 g) ∧ μ 0 13 = 0 ∧ WlK 1 μ ∧ (∀ j : Nat, j < 3 → μ 34 j = 35 + 33 * (j : Int)) ∧ (WlK 35 μ ∧ WlK 68 μ ∧ WlK 101 μ) ∧ μ 134 = (fun _ => 0) ∧ ObK 7 9 135 μ ∧ ObK 5 3 145 μ ∧ ObK 6 6 149 μ ∧ GmK 156 μ ∧ GmK 167 μ ∧ ObK 3 1 178 μ ∧ ObK 1 5 180 μ ∧ ObK 2 8 186 μ ∧ ObK 8 2 195 μ ∧ ObK 4 2 198 μ
def S_HB : Sp := fun n as μ Q => as = [kR ((0 : Nat) : Int)] ∧ n = 1 ∧ μ 0 = dfl 10 ∧ ∀ μ' : Mem, HbK μ' → Q μ' none
theorem S_HB_mk {n : Nat} {as : List AV} {μ : Mem} {Q : Mem → Option AV → Prop} (h1 : as = [kR ((0 : Nat) : Int)]) (h3 : n = 1) (h4 : μ 0 = dfl 10) (h5 : ∀ μ' : Mem, HbK μ' → Q μ' none) : S_HB n as μ Q := ⟨h1, h3, h4, h5⟩
theorem la_0 : LAY 0 = (20, 14) := by decide +kernel
theorem la_34 : LAY 34 = (5, 3) := by decide +kernel
set_option maxRecDepth 20000 in
theorem ct_X10_init : Ct mX10_init 3 53 200 16127 S_HB := by
  refine ct_of (own := RX10) (by decide +kernel) rfl ?_ ?_
  · intro n as μ Q hS
    obtain ⟨rfl, -⟩ := hS
    exact Nat.le_of_ble_eq_true rfl
  · intro G n as μ Q hS
    obtain ⟨rfl, rfl, h0, hQ⟩ := hS
    refine k_aload_n (i := 0) (v := kR ((0 : Nat) : Int)) (Nat.le_refl 2) rfl (by decide +kernel) ?_
    refine k_objinit (idx := 1) (by omega) (in_ok (i := 22) (by decide +kernel) rfl) (in_ok (i := 23) (by decide +kernel) rfl) (in_ok (i := 24) (by decide +kernel) rfl) (by decide) (by decide) rfl (by decide +kernel) ?_
    refine k_aload_n (i := 0) (v := kR ((0 : Nat) : Int)) (Nat.le_refl 2) rfl (by decide +kernel) ?_
    refine k_new (ci := 9) (N := 11) (idx := 7) (nw_c (i := 25) (j := 26) (k := 2) (RX9, TX9, 11) rfl rfl (by decide +kernel) (by decide +kernel) (by decide +kernel)) (show LAY 1 = (19, 11) by decide +kernel) (by omega) (by omega) (by decide +kernel) ?_
    refine k_dup (show (2 : Nat) ≠ 1 by decide) (by decide +kernel) ?_
    refine k_callI (as := []) (z := ((1 : Nat) : Int)) (st := [kR ((1 : Nat) : Int), kR ((0 : Nat) : Int)]) ct_X9_init mmX9_init iiX9_init rfl rfl lkX10_9 ⟨by decide, by decide⟩ rfl (by omega) ⟨by omega, by omega⟩ (Nat.le_of_ble_eq_true rfl) (by decide +kernel) (S_W9_mk 1 rfl (by decide) rfl rs_eq (fun q1 f1 o1 => ?_))
    show Vc mX10_init RX10 3 53 200 16127 G 1 Q 12 [(0, kR ((0 : Nat) : Int))] [kR ((1 : Nat) : Int), kR ((0 : Nat) : Int)] q1 34 1477
    refine kq_put (k := 0) (ci := 10) (f := 0) (idx := 10) (pk_f (i := 494) (RX10, TX10, 14) rfl (by decide) rfl rfl (by decide +kernel) rfl rfl) la_0 (by omega) (by decide) rfl trivial (by decide +kernel) ?_
    refine vc_gen (OB (WlK 1) 32 0 1 0 μ) (st_ob (loc_wl 1) f1 o1 (by omega)) (fun m1 h1 => ?_)
    refine k_aload_n (i := 0) (v := kR ((0 : Nat) : Int)) (Nat.le_refl 2) rfl (by decide +kernel) ?_
    refine k_iconst (c := 3) (by decide +kernel) ?_
    refine k_anewarray (idx := 7) (kd := 5) (N := 3) rfl (by omega) (Or.inr ⟨rfl, in_ok (i := 25) (by decide +kernel) rfl⟩) la_34 (by omega) (by omega) (by decide +kernel) ?_
    refine kq_put (k := 0) (ci := 10) (f := 1) (idx := 16) (pk_f (i := 495) (RX10, TX10, 14) rfl (by decide) rfl rfl (by decide +kernel) rfl rfl) la_0 (by omega) (by decide) rfl trivial (by decide +kernel) ?_
    refine vc_gen (AR 0 34 1 (fun _ => -1) m1) (st_ar (by omega)) (fun m2 h2 => ?_)
    refine k_iconst (c := 0) (by decide +kernel) ?_
    refine k_istore_n (i := 1) (by decide) (by decide +kernel) ?_
    show Vc mX10_init RX10 3 53 200 16127 G 1 Q 25 [(1, kI 0), (0, kR ((0 : Nat) : Int))] [] m2 35 1480
    have t0 : m2 ((0 : Nat) : Int) ((1 : Nat) : Int) = ((34 : Nat) : Int) := by rw [show ((1 : Nat) : Int) = 1 from rfl, h2.2.1 1, if_pos rfl]
    refine k_iload_n (i := 1) (z := 0) rfl (by decide +kernel) ?_
    refine k_iconst (c := 3) (by decide +kernel) ?_
    refine k_icmp_ge (off := 22) (tgt := 49) (rr32 (by omega)) (rr32 (by omega)) (by decide) (by decide +kernel) (fun c => absurd (show (3 : Int) ≤ 0 from c) (by decide)) (fun _ => ?_)
    refine k_aload_n (i := 0) (v := kR ((0 : Nat) : Int)) (Nat.le_refl 2) rfl (by decide +kernel) ?_
    refine kq_get (k := 0) (w := ((34 : Nat) : Int)) (idx := 16) (ci := 10) (f := 1) (ff_f (i := 495) (RX10, TX10, 14) rfl (by decide) rfl (by decide +kernel)) la_0 (by omega) (by decide) rfl t0 (by decide +kernel) ?_
    refine k_iload_n (i := 1) (z := 0) rfl (by decide +kernel) ?_
    refine k_new (ci := 9) (N := 11) (idx := 7) (nw_c (i := 25) (j := 26) (k := 2) (RX9, TX9, 11) rfl rfl (by decide +kernel) (by decide +kernel) (by decide +kernel)) (show LAY 35 = (19, 11) by decide +kernel) (by omega) (by omega) (by decide +kernel) ?_
    refine k_dup (show (2 : Nat) ≠ 1 by decide) (by decide +kernel) ?_
    refine k_callI (as := []) (z := ((35 : Nat) : Int)) (st := [kR ((35 : Nat) : Int), kI 0, kR ((34 : Nat) : Int)]) ct_X9_init mmX9_init iiX9_init rfl rfl lkX10_9 ⟨by decide, by decide⟩ rfl (by omega) ⟨by omega, by omega⟩ (Nat.le_of_ble_eq_true rfl) (by decide +kernel) (S_W9_mk 35 rfl (by decide) rfl rs_eq (fun q3 f3 o3 => ?_))
    show Vc mX10_init RX10 3 53 200 16127 G 1 Q 42 [(1, kI 0), (0, kR ((0 : Nat) : Int))] [kR ((35 : Nat) : Int), kI 0, kR ((34 : Nat) : Int)] q3 68 2957
    refine kq_ast (k := 34) (w := 35) (ci := 9) (Or.inr ⟨rfl, rfl⟩) la_34 (by omega) (by omega) (by omega) (show LAY 35 = (19, 11) by decide +kernel) (by omega) (by decide) (by decide +kernel) ?_
    refine vc_gen (OB (WlK 35) 32 34 35 0 m2) (st_ob (loc_wl 35) f3 o3 (by omega)) (fun m3 h3 => ?_)
    refine k_iinc (i := 1) (c := 1) (z := 0) rfl (by decide) (by decide +kernel) ?_
    refine k_goto (off := (-21)) (tgt := 25) (by decide) (by decide +kernel) ?_
    show Vc mX10_init RX10 3 53 200 16127 G 1 Q 25 [(1, kI 1), (0, kR ((0 : Nat) : Int))] [] m3 68 2957
    have t1 : m3 ((0 : Nat) : Int) ((1 : Nat) : Int) = ((34 : Nat) : Int) := by rw [h3.1 ((0 : Nat) : Int) (by omega) (by omega), show ((1 : Nat) : Int) = 1 from rfl, h2.2.1 1, if_pos rfl]
    refine k_iload_n (i := 1) (z := 1) rfl (by decide +kernel) ?_
    refine k_iconst (c := 3) (by decide +kernel) ?_
    refine k_icmp_ge (off := 22) (tgt := 49) (rr32 (by omega)) (rr32 (by omega)) (by decide) (by decide +kernel) (fun c => absurd (show (3 : Int) ≤ 1 from c) (by decide)) (fun _ => ?_)
    refine k_aload_n (i := 0) (v := kR ((0 : Nat) : Int)) (Nat.le_refl 2) rfl (by decide +kernel) ?_
    refine kq_get (k := 0) (w := ((34 : Nat) : Int)) (idx := 16) (ci := 10) (f := 1) (ff_f (i := 495) (RX10, TX10, 14) rfl (by decide) rfl (by decide +kernel)) la_0 (by omega) (by decide) rfl t1 (by decide +kernel) ?_
    refine k_iload_n (i := 1) (z := 1) rfl (by decide +kernel) ?_
    refine k_new (ci := 9) (N := 11) (idx := 7) (nw_c (i := 25) (j := 26) (k := 2) (RX9, TX9, 11) rfl rfl (by decide +kernel) (by decide +kernel) (by decide +kernel)) (show LAY 68 = (19, 11) by decide +kernel) (by omega) (by omega) (by decide +kernel) ?_
    refine k_dup (show (2 : Nat) ≠ 1 by decide) (by decide +kernel) ?_
    refine k_callI (as := []) (z := ((68 : Nat) : Int)) (st := [kR ((68 : Nat) : Int), kI 1, kR ((34 : Nat) : Int)]) ct_X9_init mmX9_init iiX9_init rfl rfl lkX10_9 ⟨by decide, by decide⟩ rfl (by omega) ⟨by omega, by omega⟩ (Nat.le_of_ble_eq_true rfl) (by decide +kernel) (S_W9_mk 68 rfl (by decide) rfl rs_eq (fun q4 f4 o4 => ?_))
    show Vc mX10_init RX10 3 53 200 16127 G 1 Q 42 [(1, kI 1), (0, kR ((0 : Nat) : Int))] [kR ((68 : Nat) : Int), kI 1, kR ((34 : Nat) : Int)] q4 101 4434
    refine kq_ast (k := 34) (w := 68) (ci := 9) (Or.inr ⟨rfl, rfl⟩) la_34 (by omega) (by omega) (by omega) (show LAY 68 = (19, 11) by decide +kernel) (by omega) (by decide) (by decide +kernel) ?_
    refine vc_gen (OB (WlK 68) 32 34 68 1 m3) (st_ob (loc_wl 68) f4 o4 (by omega)) (fun m4 h4 => ?_)
    refine k_iinc (i := 1) (c := 1) (z := 1) rfl (by decide) (by decide +kernel) ?_
    refine k_goto (off := (-21)) (tgt := 25) (by decide) (by decide +kernel) ?_
    show Vc mX10_init RX10 3 53 200 16127 G 1 Q 25 [(1, kI 2), (0, kR ((0 : Nat) : Int))] [] m4 101 4434
    have t2 : m4 ((0 : Nat) : Int) ((1 : Nat) : Int) = ((34 : Nat) : Int) := by rw [h4.1 ((0 : Nat) : Int) (by omega) (by omega), h3.1 ((0 : Nat) : Int) (by omega) (by omega), show ((1 : Nat) : Int) = 1 from rfl, h2.2.1 1, if_pos rfl]
    refine k_iload_n (i := 1) (z := 2) rfl (by decide +kernel) ?_
    refine k_iconst (c := 3) (by decide +kernel) ?_
    refine k_icmp_ge (off := 22) (tgt := 49) (rr32 (by omega)) (rr32 (by omega)) (by decide) (by decide +kernel) (fun c => absurd (show (3 : Int) ≤ 2 from c) (by decide)) (fun _ => ?_)
    refine k_aload_n (i := 0) (v := kR ((0 : Nat) : Int)) (Nat.le_refl 2) rfl (by decide +kernel) ?_
    refine kq_get (k := 0) (w := ((34 : Nat) : Int)) (idx := 16) (ci := 10) (f := 1) (ff_f (i := 495) (RX10, TX10, 14) rfl (by decide) rfl (by decide +kernel)) la_0 (by omega) (by decide) rfl t2 (by decide +kernel) ?_
    refine k_iload_n (i := 1) (z := 2) rfl (by decide +kernel) ?_
    refine k_new (ci := 9) (N := 11) (idx := 7) (nw_c (i := 25) (j := 26) (k := 2) (RX9, TX9, 11) rfl rfl (by decide +kernel) (by decide +kernel) (by decide +kernel)) (show LAY 101 = (19, 11) by decide +kernel) (by omega) (by omega) (by decide +kernel) ?_
    refine k_dup (show (2 : Nat) ≠ 1 by decide) (by decide +kernel) ?_
    refine k_callI (as := []) (z := ((101 : Nat) : Int)) (st := [kR ((101 : Nat) : Int), kI 2, kR ((34 : Nat) : Int)]) ct_X9_init mmX9_init iiX9_init rfl rfl lkX10_9 ⟨by decide, by decide⟩ rfl (by omega) ⟨by omega, by omega⟩ (Nat.le_of_ble_eq_true rfl) (by decide +kernel) (S_W9_mk 101 rfl (by decide) rfl rs_eq (fun q5 f5 o5 => ?_))
    show Vc mX10_init RX10 3 53 200 16127 G 1 Q 42 [(1, kI 2), (0, kR ((0 : Nat) : Int))] [kR ((101 : Nat) : Int), kI 2, kR ((34 : Nat) : Int)] q5 134 5911
    refine kq_ast (k := 34) (w := 101) (ci := 9) (Or.inr ⟨rfl, rfl⟩) la_34 (by omega) (by omega) (by omega) (show LAY 101 = (19, 11) by decide +kernel) (by omega) (by decide) (by decide +kernel) ?_
    refine vc_gen (OB (WlK 101) 32 34 101 2 m4) (st_ob (loc_wl 101) f5 o5 (by omega)) (fun m5 h5 => ?_)
    refine k_iinc (i := 1) (c := 1) (z := 2) rfl (by decide) (by decide +kernel) ?_
    refine k_goto (off := (-21)) (tgt := 25) (by decide) (by decide +kernel) ?_
    show Vc mX10_init RX10 3 53 200 16127 G 1 Q 25 [(1, kI 3), (0, kR ((0 : Nat) : Int))] [] m5 134 5911
    refine k_iload_n (i := 1) (z := 3) rfl (by decide +kernel) ?_
    refine k_iconst (c := 3) (by decide +kernel) ?_
    refine k_icmp_ge (off := 22) (tgt := 49) (rr32 (by omega)) (rr32 (by omega)) (by decide) (by decide +kernel) (fun _ => ?_) (fun c => absurd (show (3 : Int) ≤ 3 by decide) c)
    refine k_aload_n (i := 0) (v := kR ((0 : Nat) : Int)) (Nat.le_refl 2) rfl (by decide +kernel) ?_
    refine k_iconst (c := 3) (by decide +kernel) ?_
    refine k_newarray (a := .boolean) (N := 3) rfl (by omega) (by decide) AR_boolean (show LAY 134 = (3, 3) by decide +kernel) (by omega) (by omega) (by decide +kernel) ?_
    refine kq_put (k := 0) (ci := 10) (f := 2) (idx := 20) (pk_f (i := 496) (RX10, TX10, 14) rfl (by decide) rfl rfl (by decide +kernel) rfl rfl) la_0 (by omega) (by decide) rfl trivial (by decide +kernel) ?_
    refine vc_gen (AR 0 134 2 (fun _ => 0) m5) (st_ar (by omega)) (fun m6 h6 => ?_)
    refine k_aload_n (i := 0) (v := kR ((0 : Nat) : Int)) (Nat.le_refl 2) rfl (by decide +kernel) ?_
    refine k_new (ci := 7) (N := 18) (idx := 24) (nw_c (i := 187) (j := 33) (k := 3) (RX7, TX7, 18) rfl rfl (by decide +kernel) (by decide +kernel) (by decide +kernel)) (show LAY 135 = (17, 18) by decide +kernel) (by omega) (by omega) (by decide +kernel) ?_
    refine k_dup (show (2 : Nat) ≠ 1 by decide) (by decide +kernel) ?_
    refine k_callI (as := []) (z := ((135 : Nat) : Int)) (st := [kR ((135 : Nat) : Int), kR ((0 : Nat) : Int)]) ct_X7_init mmX7_init iiX7_init rfl rfl lkX10_26 ⟨by decide, by decide⟩ rfl (by omega) ⟨by omega, by omega⟩ (Nat.le_of_ble_eq_true rfl) (by decide +kernel) (S_ini_mk 135 rfl (by decide) rfl rs_eq (fun q7 f7 o7 => ?_))
    show Vc mX10_init RX10 3 53 200 16127 G 1 Q 64 [(1, kI 3), (0, kR ((0 : Nat) : Int))] [kR ((135 : Nat) : Int), kR ((0 : Nat) : Int)] q7 145 6235
    refine kq_put (k := 0) (ci := 10) (f := 3) (idx := 27) (pk_f (i := 497) (RX10, TX10, 14) rfl (by decide) rfl rfl (by decide +kernel) rfl rfl) la_0 (by omega) (by decide) rfl trivial (by decide +kernel) ?_
    refine vc_gen (OB (ObK 7 9 135) 9 0 135 3 m6) (st_ob (loc_ob 7 9 135) f7 o7 (by omega)) (fun m7 h7 => ?_)
    refine k_aload_n (i := 0) (v := kR ((0 : Nat) : Int)) (Nat.le_refl 2) rfl (by decide +kernel) ?_
    refine k_new (ci := 5) (N := 6) (idx := 31) (nw_c (i := 189) (j := 190) (k := 4) (RX5, TX5, 6) rfl rfl (by decide +kernel) (by decide +kernel) (by decide +kernel)) (show LAY 145 = (15, 6) by decide +kernel) (by omega) (by omega) (by decide +kernel) ?_
    refine k_dup (show (2 : Nat) ≠ 1 by decide) (by decide +kernel) ?_
    refine k_callI (as := []) (z := ((145 : Nat) : Int)) (st := [kR ((145 : Nat) : Int), kR ((0 : Nat) : Int)]) ct_X5_init mmX5_init iiX5_init rfl rfl lkX10_33 ⟨by decide, by decide⟩ rfl (by omega) ⟨by omega, by omega⟩ (Nat.le_of_ble_eq_true rfl) (by decide +kernel) (S_ini_mk 145 rfl (by decide) rfl rs_eq (fun q8 f8 o8 => ?_))
    show Vc mX10_init RX10 3 53 200 16127 G 1 Q 75 [(1, kI 3), (0, kR ((0 : Nat) : Int))] [kR ((145 : Nat) : Int), kR ((0 : Nat) : Int)] q8 149 7744
    refine kq_put (k := 0) (ci := 10) (f := 4) (idx := 34) (pk_f (i := 498) (RX10, TX10, 14) rfl (by decide) rfl rfl (by decide +kernel) rfl rfl) la_0 (by omega) (by decide) rfl trivial (by decide +kernel) ?_
    refine vc_gen (OB (ObK 5 3 145) 3 0 145 4 m7) (st_ob (loc_ob 5 3 145) f8 o8 (by omega)) (fun m8 h8 => ?_)
    refine k_aload_n (i := 0) (v := kR ((0 : Nat) : Int)) (Nat.le_refl 2) rfl (by decide +kernel) ?_
    refine k_new (ci := 6) (N := 12) (idx := 38) (nw_c (i := 217) (j := 218) (k := 5) (RX6, TX6, 12) rfl rfl (by decide +kernel) (by decide +kernel) (by decide +kernel)) (show LAY 149 = (16, 12) by decide +kernel) (by omega) (by omega) (by decide +kernel) ?_
    refine k_dup (show (2 : Nat) ≠ 1 by decide) (by decide +kernel) ?_
    refine k_callI (as := []) (z := ((149 : Nat) : Int)) (st := [kR ((149 : Nat) : Int), kR ((0 : Nat) : Int)]) ct_X6_init mmX6_init iiX6_init rfl rfl lkX10_40 ⟨by decide, by decide⟩ rfl (by omega) ⟨by omega, by omega⟩ (Nat.le_of_ble_eq_true rfl) (by decide +kernel) (S_ini_mk 149 rfl (by decide) rfl rs_eq (fun q9 f9 o9 => ?_))
    show Vc mX10_init RX10 3 53 200 16127 G 1 Q 86 [(1, kI 3), (0, kR ((0 : Nat) : Int))] [kR ((149 : Nat) : Int), kR ((0 : Nat) : Int)] q9 156 10644
    refine kq_put (k := 0) (ci := 10) (f := 5) (idx := 41) (pk_f (i := 499) (RX10, TX10, 14) rfl (by decide) rfl rfl (by decide +kernel) rfl rfl) la_0 (by omega) (by decide) rfl trivial (by decide +kernel) ?_
    refine vc_gen (OB (ObK 6 6 149) 6 0 149 5 m8) (st_ob (loc_ob 6 6 149) f9 o9 (by omega)) (fun m9 h9 => ?_)
    refine k_aload_n (i := 0) (v := kR ((0 : Nat) : Int)) (Nat.le_refl 2) rfl (by decide +kernel) ?_
    refine k_new (ci := 0) (N := 19) (idx := 45) (nw_c (i := 265) (j := 266) (k := 6) (RX0, TX0, 19) rfl rfl (by decide +kernel) (by decide +kernel) (by decide +kernel)) (show LAY 156 = (10, 19) by decide +kernel) (by omega) (by omega) (by decide +kernel) ?_
    refine k_dup (show (2 : Nat) ≠ 1 by decide) (by decide +kernel) ?_
    refine k_callI (as := []) (z := ((156 : Nat) : Int)) (st := [kR ((156 : Nat) : Int), kR ((0 : Nat) : Int)]) ct_X0_init mmX0_init iiX0_init rfl rfl lkX10_47 ⟨by decide, by decide⟩ rfl (by omega) ⟨by omega, by omega⟩ (Nat.le_of_ble_eq_true rfl) (by decide +kernel) (S_G0_mk 156 rfl (by decide) rfl rs_eq (fun q10 f10 o10 => ?_))
    show Vc mX10_init RX10 3 53 200 16127 G 1 Q 97 [(1, kI 3), (0, kR ((0 : Nat) : Int))] [kR ((156 : Nat) : Int), kR ((0 : Nat) : Int)] q10 167 13004
    refine kq_put (k := 0) (ci := 10) (f := 6) (idx := 48) (pk_f (i := 500) (RX10, TX10, 14) rfl (by decide) rfl rfl (by decide +kernel) rfl rfl) la_0 (by omega) (by decide) rfl trivial (by decide +kernel) ?_
    refine vc_gen (OB (GmK 156) 10 0 156 6 m9) (st_ob (loc_gm 156) f10 o10 (by omega)) (fun m10 h10 => ?_)
    refine k_aload_n (i := 0) (v := kR ((0 : Nat) : Int)) (Nat.le_refl 2) rfl (by decide +kernel) ?_
    refine k_new (ci := 0) (N := 19) (idx := 45) (nw_c (i := 265) (j := 266) (k := 6) (RX0, TX0, 19) rfl rfl (by decide +kernel) (by decide +kernel) (by decide +kernel)) (show LAY 167 = (10, 19) by decide +kernel) (by omega) (by omega) (by decide +kernel) ?_
    refine k_dup (show (2 : Nat) ≠ 1 by decide) (by decide +kernel) ?_
    refine k_callI (as := []) (z := ((167 : Nat) : Int)) (st := [kR ((167 : Nat) : Int), kR ((0 : Nat) : Int)]) ct_X0_init mmX0_init iiX0_init rfl rfl lkX10_47 ⟨by decide, by decide⟩ rfl (by omega) ⟨by omega, by omega⟩ (Nat.le_of_ble_eq_true rfl) (by decide +kernel) (S_G0_mk 167 rfl (by decide) rfl rs_eq (fun q11 f11 o11 => ?_))
    show Vc mX10_init RX10 3 53 200 16127 G 1 Q 108 [(1, kI 3), (0, kR ((0 : Nat) : Int))] [kR ((167 : Nat) : Int), kR ((0 : Nat) : Int)] q11 178 15364
    refine kq_put (k := 0) (ci := 10) (f := 7) (idx := 52) (pk_f (i := 501) (RX10, TX10, 14) rfl (by decide) rfl rfl (by decide +kernel) rfl rfl) la_0 (by omega) (by decide) rfl trivial (by decide +kernel) ?_
    refine vc_gen (OB (GmK 167) 10 0 167 7 m10) (st_ob (loc_gm 167) f11 o11 (by omega)) (fun m11 h11 => ?_)
    refine k_aload_n (i := 0) (v := kR ((0 : Nat) : Int)) (Nat.le_refl 2) rfl (by decide +kernel) ?_
    refine k_new (ci := 3) (N := 10) (idx := 55) (nw_c (i := 337) (j := 338) (k := 7) (RX3, TX3, 10) rfl rfl (by decide +kernel) (by decide +kernel) (by decide +kernel)) (show LAY 178 = (13, 10) by decide +kernel) (by omega) (by omega) (by decide +kernel) ?_
    refine k_dup (show (2 : Nat) ≠ 1 by decide) (by decide +kernel) ?_
    refine k_callI (as := []) (z := ((178 : Nat) : Int)) (st := [kR ((178 : Nat) : Int), kR ((0 : Nat) : Int)]) ct_X3_init mmX3_init iiX3_init rfl rfl lkX10_57 ⟨by decide, by decide⟩ rfl (by omega) ⟨by omega, by omega⟩ (Nat.le_of_ble_eq_true rfl) (by decide +kernel) (S_ini_mk 178 rfl (by decide) rfl rs_eq (fun q12 f12 o12 => ?_))
    show Vc mX10_init RX10 3 53 200 16127 G 1 Q 119 [(1, kI 3), (0, kR ((0 : Nat) : Int))] [kR ((178 : Nat) : Int), kR ((0 : Nat) : Int)] q12 180 15438
    refine kq_put (k := 0) (ci := 10) (f := 8) (idx := 58) (pk_f (i := 502) (RX10, TX10, 14) rfl (by decide) rfl rfl (by decide +kernel) rfl rfl) la_0 (by omega) (by decide) rfl trivial (by decide +kernel) ?_
    refine vc_gen (OB (ObK 3 1 178) 1 0 178 8 m11) (st_ob (loc_ob 3 1 178) f12 o12 (by omega)) (fun m12 h12 => ?_)
    refine k_aload_n (i := 0) (v := kR ((0 : Nat) : Int)) (Nat.le_refl 2) rfl (by decide +kernel) ?_
    refine k_new (ci := 1) (N := 6) (idx := 62) (nw_c (i := 381) (j := 382) (k := 8) (RX1, TX1, 6) rfl rfl (by decide +kernel) (by decide +kernel) (by decide +kernel)) (show LAY 180 = (11, 6) by decide +kernel) (by omega) (by omega) (by decide +kernel) ?_
    refine k_dup (show (2 : Nat) ≠ 1 by decide) (by decide +kernel) ?_
    refine k_callI (as := []) (z := ((180 : Nat) : Int)) (st := [kR ((180 : Nat) : Int), kR ((0 : Nat) : Int)]) ct_X1_init mmX1_init iiX1_init rfl rfl lkX10_64 ⟨by decide, by decide⟩ rfl (by omega) ⟨by omega, by omega⟩ (Nat.le_of_ble_eq_true rfl) (by decide +kernel) (S_ini_mk 180 rfl (by decide) rfl rs_eq (fun q13 f13 o13 => ?_))
    show Vc mX10_init RX10 3 53 200 16127 G 1 Q 130 [(1, kI 3), (0, kR ((0 : Nat) : Int))] [kR ((180 : Nat) : Int), kR ((0 : Nat) : Int)] q13 186 15654
    refine kq_put (k := 0) (ci := 10) (f := 9) (idx := 65) (pk_f (i := 503) (RX10, TX10, 14) rfl (by decide) rfl rfl (by decide +kernel) rfl rfl) la_0 (by omega) (by decide) rfl trivial (by decide +kernel) ?_
    refine vc_gen (OB (ObK 1 5 180) 5 0 180 9 m12) (st_ob (loc_ob 1 5 180) f13 o13 (by omega)) (fun m13 h13 => ?_)
    refine k_aload_n (i := 0) (v := kR ((0 : Nat) : Int)) (Nat.le_refl 2) rfl (by decide +kernel) ?_
    refine k_new (ci := 2) (N := 11) (idx := 69) (nw_c (i := 412) (j := 413) (k := 9) (RX2, TX2, 11) rfl rfl (by decide +kernel) (by decide +kernel) (by decide +kernel)) (show LAY 186 = (12, 11) by decide +kernel) (by omega) (by omega) (by decide +kernel) ?_
    refine k_dup (show (2 : Nat) ≠ 1 by decide) (by decide +kernel) ?_
    refine k_callI (as := []) (z := ((186 : Nat) : Int)) (st := [kR ((186 : Nat) : Int), kR ((0 : Nat) : Int)]) ct_X2_init mmX2_init iiX2_init rfl rfl lkX10_71 ⟨by decide, by decide⟩ rfl (by omega) ⟨by omega, by omega⟩ (Nat.le_of_ble_eq_true rfl) (by decide +kernel) (S_ini_mk 186 rfl (by decide) rfl rs_eq (fun q14 f14 o14 => ?_))
    show Vc mX10_init RX10 3 53 200 16127 G 1 Q 141 [(1, kI 3), (0, kR ((0 : Nat) : Int))] [kR ((186 : Nat) : Int), kR ((0 : Nat) : Int)] q14 195 15840
    refine kq_put (k := 0) (ci := 10) (f := 10) (idx := 72) (pk_f (i := 504) (RX10, TX10, 14) rfl (by decide) rfl rfl (by decide +kernel) rfl rfl) la_0 (by omega) (by decide) rfl trivial (by decide +kernel) ?_
    refine vc_gen (OB (ObK 2 8 186) 8 0 186 10 m13) (st_ob (loc_ob 2 8 186) f14 o14 (by omega)) (fun m14 h14 => ?_)
    refine k_aload_n (i := 0) (v := kR ((0 : Nat) : Int)) (Nat.le_refl 2) rfl (by decide +kernel) ?_
    refine k_new (ci := 8) (N := 4) (idx := 76) (nw_c (i := 455) (j := 456) (k := 10) (RX8, TX8, 4) rfl rfl (by decide +kernel) (by decide +kernel) (by decide +kernel)) (show LAY 195 = (18, 4) by decide +kernel) (by omega) (by omega) (by decide +kernel) ?_
    refine k_dup (show (2 : Nat) ≠ 1 by decide) (by decide +kernel) ?_
    refine k_callI (as := []) (z := ((195 : Nat) : Int)) (st := [kR ((195 : Nat) : Int), kR ((0 : Nat) : Int)]) ct_X8_init mmX8_init iiX8_init rfl rfl lkX10_78 ⟨by decide, by decide⟩ rfl (by omega) ⟨by omega, by omega⟩ (Nat.le_of_ble_eq_true rfl) (by decide +kernel) (S_ini_mk 195 rfl (by decide) rfl rs_eq (fun q15 f15 o15 => ?_))
    show Vc mX10_init RX10 3 53 200 16127 G 1 Q 152 [(1, kI 3), (0, kR ((0 : Nat) : Int))] [kR ((195 : Nat) : Int), kR ((0 : Nat) : Int)] q15 198 15860
    refine kq_put (k := 0) (ci := 10) (f := 11) (idx := 79) (pk_f (i := 505) (RX10, TX10, 14) rfl (by decide) rfl rfl (by decide +kernel) rfl rfl) la_0 (by omega) (by decide) rfl trivial (by decide +kernel) ?_
    refine vc_gen (OB (ObK 8 2 195) 2 0 195 11 m14) (st_ob (loc_ob 8 2 195) f15 o15 (by omega)) (fun m15 h15 => ?_)
    refine k_aload_n (i := 0) (v := kR ((0 : Nat) : Int)) (Nat.le_refl 2) rfl (by decide +kernel) ?_
    refine k_new (ci := 4) (N := 3) (idx := 83) (nw_c (i := 476) (j := 477) (k := 11) (RX4, TX4, 3) rfl rfl (by decide +kernel) (by decide +kernel) (by decide +kernel)) (show LAY 198 = (14, 3) by decide +kernel) (by omega) (by omega) (by decide +kernel) ?_
    refine k_dup (show (2 : Nat) ≠ 1 by decide) (by decide +kernel) ?_
    refine k_callI (as := []) (z := ((198 : Nat) : Int)) (st := [kR ((198 : Nat) : Int), kR ((0 : Nat) : Int)]) ct_X4_init mmX4_init iiX4_init rfl rfl lkX10_85 ⟨by decide, by decide⟩ rfl (by omega) ⟨by omega, by omega⟩ (Nat.le_of_ble_eq_true rfl) (by decide +kernel) (S_ini_mk 198 rfl (by decide) rfl rs_eq (fun q16 f16 o16 => ?_))
    show Vc mX10_init RX10 3 53 200 16127 G 1 Q 163 [(1, kI 3), (0, kR ((0 : Nat) : Int))] [kR ((198 : Nat) : Int), kR ((0 : Nat) : Int)] q16 201 16127
    refine kq_put (k := 0) (ci := 10) (f := 12) (idx := 86) (pk_f (i := 506) (RX10, TX10, 14) rfl (by decide) rfl rfl (by decide +kernel) rfl rfl) la_0 (by omega) (by decide) rfl trivial (by decide +kernel) ?_
    refine vc_gen (OB (ObK 4 2 198) 2 0 198 12 m15) (st_ob (loc_ob 4 2 198) f16 o16 (by omega)) (fun m16 h16 => ?_)
    refine k_aload_n (i := 0) (v := kR ((0 : Nat) : Int)) (Nat.le_refl 2) rfl (by decide +kernel) ?_
    refine k_iconst (c := 0) (by decide +kernel) ?_
    refine kq_puti (k := 0) (ci := 10) (f := 13) (idx := 90) (pk_n (i := 507) (RX10, TX10, 14) rfl (by decide) rfl rfl (by decide +kernel)) la_0 (by omega) (by decide) rfl trivial (by decide +kernel) ?_
    refine k_return rfl (by omega) rfl (by decide +kernel) ?_
    have row : ∀ g : Nat, g < 13 → updm m16 ((0 : Nat) : Int) ((13 : Nat) : Int) 0 0 g = OFF 10 g := fun g hg => by
      rw [show (0 : Int) = ((0 : Nat) : Int) from rfl, ru_eq, r1_ne (show (g : Int) ≠ ((13 : Nat) : Int) by omega)]
      rcases (show g = 0 ∨ g = 1 ∨ g = 2 ∨ g = 3 ∨ g = 4 ∨ g = 5 ∨ g = 6 ∨ g = 7 ∨ g = 8 ∨ g = 9 ∨ g = 10 ∨ g = 11 ∨ g = 12 by omega) with rfl | rfl | rfl | rfl | rfl | rfl | rfl | rfl | rfl | rfl | rfl | rfl | rfl
      · rw [h16.2.1 _, if_neg (by omega), h15.2.1 _, if_neg (by omega), h14.2.1 _, if_neg (by omega), h13.2.1 _, if_neg (by omega), h12.2.1 _, if_neg (by omega), h11.2.1 _, if_neg (by omega), h10.2.1 _, if_neg (by omega), h9.2.1 _, if_neg (by omega), h8.2.1 _, if_neg (by omega), h7.2.1 _, if_neg (by omega), h6.2.1 _, if_neg (by omega), h5.1 ((0 : Nat) : Int) (by omega) (by omega), h4.1 ((0 : Nat) : Int) (by omega) (by omega), h3.1 ((0 : Nat) : Int) (by omega) (by omega), h2.2.1 _, if_neg (by omega), h1.2.1 _, if_pos (by omega)]; decide +kernel
      · rw [h16.2.1 _, if_neg (by omega), h15.2.1 _, if_neg (by omega), h14.2.1 _, if_neg (by omega), h13.2.1 _, if_neg (by omega), h12.2.1 _, if_neg (by omega), h11.2.1 _, if_neg (by omega), h10.2.1 _, if_neg (by omega), h9.2.1 _, if_neg (by omega), h8.2.1 _, if_neg (by omega), h7.2.1 _, if_neg (by omega), h6.2.1 _, if_neg (by omega), h5.1 ((0 : Nat) : Int) (by omega) (by omega), h4.1 ((0 : Nat) : Int) (by omega) (by omega), h3.1 ((0 : Nat) : Int) (by omega) (by omega), h2.2.1 _, if_pos (by omega)]; decide +kernel
      · rw [h16.2.1 _, if_neg (by omega), h15.2.1 _, if_neg (by omega), h14.2.1 _, if_neg (by omega), h13.2.1 _, if_neg (by omega), h12.2.1 _, if_neg (by omega), h11.2.1 _, if_neg (by omega), h10.2.1 _, if_neg (by omega), h9.2.1 _, if_neg (by omega), h8.2.1 _, if_neg (by omega), h7.2.1 _, if_neg (by omega), h6.2.1 _, if_pos (by omega)]; decide +kernel
      · rw [h16.2.1 _, if_neg (by omega), h15.2.1 _, if_neg (by omega), h14.2.1 _, if_neg (by omega), h13.2.1 _, if_neg (by omega), h12.2.1 _, if_neg (by omega), h11.2.1 _, if_neg (by omega), h10.2.1 _, if_neg (by omega), h9.2.1 _, if_neg (by omega), h8.2.1 _, if_neg (by omega), h7.2.1 _, if_pos (by omega)]; decide +kernel
      · rw [h16.2.1 _, if_neg (by omega), h15.2.1 _, if_neg (by omega), h14.2.1 _, if_neg (by omega), h13.2.1 _, if_neg (by omega), h12.2.1 _, if_neg (by omega), h11.2.1 _, if_neg (by omega), h10.2.1 _, if_neg (by omega), h9.2.1 _, if_neg (by omega), h8.2.1 _, if_pos (by omega)]; decide +kernel
      · rw [h16.2.1 _, if_neg (by omega), h15.2.1 _, if_neg (by omega), h14.2.1 _, if_neg (by omega), h13.2.1 _, if_neg (by omega), h12.2.1 _, if_neg (by omega), h11.2.1 _, if_neg (by omega), h10.2.1 _, if_neg (by omega), h9.2.1 _, if_pos (by omega)]; decide +kernel
      · rw [h16.2.1 _, if_neg (by omega), h15.2.1 _, if_neg (by omega), h14.2.1 _, if_neg (by omega), h13.2.1 _, if_neg (by omega), h12.2.1 _, if_neg (by omega), h11.2.1 _, if_neg (by omega), h10.2.1 _, if_pos (by omega)]; decide +kernel
      · rw [h16.2.1 _, if_neg (by omega), h15.2.1 _, if_neg (by omega), h14.2.1 _, if_neg (by omega), h13.2.1 _, if_neg (by omega), h12.2.1 _, if_neg (by omega), h11.2.1 _, if_pos (by omega)]; decide +kernel
      · rw [h16.2.1 _, if_neg (by omega), h15.2.1 _, if_neg (by omega), h14.2.1 _, if_neg (by omega), h13.2.1 _, if_neg (by omega), h12.2.1 _, if_pos (by omega)]; decide +kernel
      · rw [h16.2.1 _, if_neg (by omega), h15.2.1 _, if_neg (by omega), h14.2.1 _, if_neg (by omega), h13.2.1 _, if_pos (by omega)]; decide +kernel
      · rw [h16.2.1 _, if_neg (by omega), h15.2.1 _, if_neg (by omega), h14.2.1 _, if_pos (by omega)]; decide +kernel
      · rw [h16.2.1 _, if_neg (by omega), h15.2.1 _, if_pos (by omega)]; decide +kernel
      · rw [h16.2.1 _, if_pos (by omega)]; decide +kernel
    refine hQ _ ⟨row, ?_, ?_, fun j hj => ?_, ⟨?_, ?_, ?_⟩, ?_, ?_, ?_, ?_, ?_, ?_, ?_, ?_, ?_, ?_, ?_⟩
    · rw [show (0 : Int) = ((0 : Nat) : Int) from rfl, ru_eq]; exact r1_eq
    · exact loc_wl 1 _ _ (fun y y0 y1 => by rw [ru_ne (by omega), h16.1 y (by omega) (by omega), h15.1 y (by omega) (by omega), h14.1 y (by omega) (by omega), h13.1 y (by omega) (by omega), h12.1 y (by omega) (by omega), h11.1 y (by omega) (by omega), h10.1 y (by omega) (by omega), h9.1 y (by omega) (by omega), h8.1 y (by omega) (by omega), h7.1 y (by omega) (by omega), h6.1 y (by omega) (by omega), h5.1 y (by omega) (by omega), h4.1 y (by omega) (by omega), h3.1 y (by omega) (by omega), h2.1 y (by omega) (by omega)]) h1.2.2
    · rw [ru_ne (by omega), h16.1 34 (by omega) (by omega), h15.1 34 (by omega) (by omega), h14.1 34 (by omega) (by omega), h13.1 34 (by omega) (by omega), h12.1 34 (by omega) (by omega), h11.1 34 (by omega) (by omega), h10.1 34 (by omega) (by omega), h9.1 34 (by omega) (by omega), h8.1 34 (by omega) (by omega), h7.1 34 (by omega) (by omega), h6.1 34 (by omega) (by omega)]
      have e5 := h5.2.1 j
      have e4 := h4.2.1 j
      have e3 := h3.2.1 j
      rw [show ((34 : Nat) : Int) = 34 from rfl] at e5 e4 e3
      rw [e5, e4, e3]
      rcases (show j = 0 ∨ j = 1 ∨ j = 2 by omega) with rfl | rfl | rfl
      · rw [if_neg (by omega), if_neg (by omega), if_pos (by omega)]; omega
      · rw [if_neg (by omega), if_pos (by omega)]; omega
      · rw [if_pos (by omega)]; omega
    · exact loc_wl 35 _ _ (fun y y0 y1 => by rw [ru_ne (by omega), h16.1 y (by omega) (by omega), h15.1 y (by omega) (by omega), h14.1 y (by omega) (by omega), h13.1 y (by omega) (by omega), h12.1 y (by omega) (by omega), h11.1 y (by omega) (by omega), h10.1 y (by omega) (by omega), h9.1 y (by omega) (by omega), h8.1 y (by omega) (by omega), h7.1 y (by omega) (by omega), h6.1 y (by omega) (by omega), h5.1 y (by omega) (by omega), h4.1 y (by omega) (by omega)]) h3.2.2
    · exact loc_wl 68 _ _ (fun y y0 y1 => by rw [ru_ne (by omega), h16.1 y (by omega) (by omega), h15.1 y (by omega) (by omega), h14.1 y (by omega) (by omega), h13.1 y (by omega) (by omega), h12.1 y (by omega) (by omega), h11.1 y (by omega) (by omega), h10.1 y (by omega) (by omega), h9.1 y (by omega) (by omega), h8.1 y (by omega) (by omega), h7.1 y (by omega) (by omega), h6.1 y (by omega) (by omega), h5.1 y (by omega) (by omega)]) h4.2.2
    · exact loc_wl 101 _ _ (fun y y0 y1 => by rw [ru_ne (by omega), h16.1 y (by omega) (by omega), h15.1 y (by omega) (by omega), h14.1 y (by omega) (by omega), h13.1 y (by omega) (by omega), h12.1 y (by omega) (by omega), h11.1 y (by omega) (by omega), h10.1 y (by omega) (by omega), h9.1 y (by omega) (by omega), h8.1 y (by omega) (by omega), h7.1 y (by omega) (by omega), h6.1 y (by omega) (by omega)]) h5.2.2
    · rw [ru_ne (by omega), h16.1 134 (by omega) (by omega), h15.1 134 (by omega) (by omega), h14.1 134 (by omega) (by omega), h13.1 134 (by omega) (by omega), h12.1 134 (by omega) (by omega), h11.1 134 (by omega) (by omega), h10.1 134 (by omega) (by omega), h9.1 134 (by omega) (by omega), h8.1 134 (by omega) (by omega), h7.1 134 (by omega) (by omega)]; exact h6.2.2
    · exact loc_ob 7 9 135 _ _ (fun y y0 y1 => by rw [ru_ne (by omega), h16.1 y (by omega) (by omega), h15.1 y (by omega) (by omega), h14.1 y (by omega) (by omega), h13.1 y (by omega) (by omega), h12.1 y (by omega) (by omega), h11.1 y (by omega) (by omega), h10.1 y (by omega) (by omega), h9.1 y (by omega) (by omega), h8.1 y (by omega) (by omega)]) h7.2.2
    · exact loc_ob 5 3 145 _ _ (fun y y0 y1 => by rw [ru_ne (by omega), h16.1 y (by omega) (by omega), h15.1 y (by omega) (by omega), h14.1 y (by omega) (by omega), h13.1 y (by omega) (by omega), h12.1 y (by omega) (by omega), h11.1 y (by omega) (by omega), h10.1 y (by omega) (by omega), h9.1 y (by omega) (by omega)]) h8.2.2
    · exact loc_ob 6 6 149 _ _ (fun y y0 y1 => by rw [ru_ne (by omega), h16.1 y (by omega) (by omega), h15.1 y (by omega) (by omega), h14.1 y (by omega) (by omega), h13.1 y (by omega) (by omega), h12.1 y (by omega) (by omega), h11.1 y (by omega) (by omega), h10.1 y (by omega) (by omega)]) h9.2.2
    · exact loc_gm 156 _ _ (fun y y0 y1 => by rw [ru_ne (by omega), h16.1 y (by omega) (by omega), h15.1 y (by omega) (by omega), h14.1 y (by omega) (by omega), h13.1 y (by omega) (by omega), h12.1 y (by omega) (by omega), h11.1 y (by omega) (by omega)]) h10.2.2
    · exact loc_gm 167 _ _ (fun y y0 y1 => by rw [ru_ne (by omega), h16.1 y (by omega) (by omega), h15.1 y (by omega) (by omega), h14.1 y (by omega) (by omega), h13.1 y (by omega) (by omega), h12.1 y (by omega) (by omega)]) h11.2.2
    · exact loc_ob 3 1 178 _ _ (fun y y0 y1 => by rw [ru_ne (by omega), h16.1 y (by omega) (by omega), h15.1 y (by omega) (by omega), h14.1 y (by omega) (by omega), h13.1 y (by omega) (by omega)]) h12.2.2
    · exact loc_ob 1 5 180 _ _ (fun y y0 y1 => by rw [ru_ne (by omega), h16.1 y (by omega) (by omega), h15.1 y (by omega) (by omega), h14.1 y (by omega) (by omega)]) h13.2.2
    · exact loc_ob 2 8 186 _ _ (fun y y0 y1 => by rw [ru_ne (by omega), h16.1 y (by omega) (by omega), h15.1 y (by omega) (by omega)]) h14.2.2
    · exact loc_ob 8 2 195 _ _ (fun y y0 y1 => by rw [ru_ne (by omega), h16.1 y (by omega) (by omega)]) h15.2.2
    · exact loc_ob 4 2 198 _ _ (fun y y0 y1 => by rw [ru_ne (by omega)]) h16.2.2
