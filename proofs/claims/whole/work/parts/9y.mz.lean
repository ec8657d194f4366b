set_option maxRecDepth 20000 in
/-- round -/
theorem lc_22 {G : Cxt} {c i : Int} {μ : Mem} (hc : ScOK G) (hI : Inv c μ) (c0 : 0 ≤ c) (hk : c ≤ 999) (hL : Lk μ) (h0 : 0 ≤ i) (h1 : i + 6 ≤ (scL G : Int)) (nx : ∀ m : Mem, Inv (c + 1) m → Lk m → VL G 1751 [] i m) : VL G 1029 [] i μ := by
  have rv : ∀ j : Int, 0 ≤ j → j < 6 → r32 (scV G (i + j)) := fun j j0 j1 => hc.2 _ (by omega) (by omega)
  refine k_aload_n (i := 1) (v := kR ((0 : Nat) : Int)) (Nat.le_refl 2) rfl (by decide +kernel) ?_
  refine l_arg (j := 1) hc (by omega) (by omega) (by decide +kernel) (by decide +kernel) (by decide +kernel) (by decide +kernel) (by decide +kernel) ?_
  refine l_arg (j := 2) hc (by omega) (by omega) (by decide +kernel) (by decide +kernel) (by decide +kernel) (by decide +kernel) (by decide +kernel) ?_
  refine k_callV (ci := 10) (z := ((0 : Nat) : Int)) (as := [kI (scV G (i + 1)), kI (scV G (i + 2))]) (st := []) ct_X10_round mmX10_round vvX10_round lkL_110 ⟨by decide, by decide⟩ rfl (atO_k la_0 (by omega) (by decide)) ⟨TX10, 14, rfl⟩ ⟨by omega, by omega⟩ (Nat.le_of_ble_eq_true rfl) (by decide +kernel) (nr_mk hL (And.intro (And.intro rfl (And.intro ⟨c, hI.1⟩ (And.intro (rv 1 (by omega) (by omega)) ((rv 2 (by omega) (by omega)))))) (fun m1 r1 q1 L1 => ?_)))
  show VL G 1043 [kI r1] i m1
  obtain ⟨b1, b2⟩ := q1
  have hM := hI.mid (fun z hz => b1.2 z (Or.inr hz))
  refine k_aload_n (i := 2) (v := kR ((201 : Nat) : Int)) (Nat.le_refl 2) rfl (by decide +kernel) ?_
  refine l_arg (j := 1) hc (by omega) (by omega) (by decide +kernel) (by decide +kernel) (by decide +kernel) (by decide +kernel) (by decide +kernel) ?_
  refine l_arg (j := 2) hc (by omega) (by omega) (by decide +kernel) (by decide +kernel) (by decide +kernel) (by decide +kernel) (by decide +kernel) ?_
  refine k_callV (ci := 11) (z := ((201 : Nat) : Int)) (as := [kI (scV G (i + 1)), kI (scV G (i + 2))]) (st := [kI r1]) ct_X11_round mmX11_round vvX11_round lkL_113 ⟨by decide, by decide⟩ rfl (atO_k la_201 (by omega) (by decide)) ⟨TX11, 52, rfl⟩ ⟨by omega, by omega⟩ (Nat.le_of_ble_eq_true rfl) (by decide +kernel) (nr_mk L1 (And.intro (And.intro rfl (And.intro hM.1 (And.intro (rv 1 (by omega) (by omega)) ((rv 2 (by omega) (by omega)))))) (fun m2 r2 q2 L2 => ?_)))
  show VL G 1057 [kI r2, kI r1] i m2
  obtain ⟨d1, d2⟩ := q2
  have e : r2 = r1 := by rw [b2, d2, hM.2]; rfl
  rw [e]
  refine k_icmp_same (off := 694) (tgt := 1751) (by decide) (by decide +kernel) ?_
  exact nx m2 ((hI.ask b1 d1).le (by omega) (by omega)) L2
set_option maxRecDepth 20000 in
/-- look -/
theorem lc_23 {G : Cxt} {c i : Int} {μ : Mem} (hc : ScOK G) (hI : Inv c μ) (c0 : 0 ≤ c) (hk : c ≤ 999) (hL : Lk μ) (h0 : 0 ≤ i) (h1 : i + 6 ≤ (scL G : Int)) (nx : ∀ m : Mem, Inv (c + 1) m → Lk m → VL G 1751 [] i m) : VL G 1062 [] i μ := by
  have rv : ∀ j : Int, 0 ≤ j → j < 6 → r32 (scV G (i + j)) := fun j j0 j1 => hc.2 _ (by omega) (by omega)
  refine k_aload_n (i := 1) (v := kR ((0 : Nat) : Int)) (Nat.le_refl 2) rfl (by decide +kernel) ?_
  refine l_arg (j := 1) hc (by omega) (by omega) (by decide +kernel) (by decide +kernel) (by decide +kernel) (by decide +kernel) (by decide +kernel) ?_
  refine l_arg (j := 2) hc (by omega) (by omega) (by decide +kernel) (by decide +kernel) (by decide +kernel) (by decide +kernel) (by decide +kernel) ?_
  refine k_callV (ci := 10) (z := ((0 : Nat) : Int)) (as := [kI (scV G (i + 1)), kI (scV G (i + 2))]) (st := []) ct_X10_look mmX10_look vvX10_look lkL_114 ⟨by decide, by decide⟩ rfl (atO_k la_0 (by omega) (by decide)) ⟨TX10, 14, rfl⟩ ⟨by omega, by omega⟩ (Nat.le_of_ble_eq_true rfl) (by decide +kernel) (nr_mk hL (And.intro (And.intro rfl (And.intro ⟨c, hI.1⟩ (And.intro (rv 1 (by omega) (by omega)) ((rv 2 (by omega) (by omega)))))) (fun m1 r1 q1 L1 => ?_)))
  show VL G 1076 [kI r1] i m1
  obtain ⟨b1, b2⟩ := q1
  have hM := hI.mid (fun z hz => b1.2 z (Or.inr hz))
  refine k_aload_n (i := 2) (v := kR ((201 : Nat) : Int)) (Nat.le_refl 2) rfl (by decide +kernel) ?_
  refine l_arg (j := 1) hc (by omega) (by omega) (by decide +kernel) (by decide +kernel) (by decide +kernel) (by decide +kernel) (by decide +kernel) ?_
  refine l_arg (j := 2) hc (by omega) (by omega) (by decide +kernel) (by decide +kernel) (by decide +kernel) (by decide +kernel) (by decide +kernel) ?_
  refine k_callV (ci := 11) (z := ((201 : Nat) : Int)) (as := [kI (scV G (i + 1)), kI (scV G (i + 2))]) (st := [kI r1]) ct_X11_look mmX11_look vvX11_look lkL_117 ⟨by decide, by decide⟩ rfl (atO_k la_201 (by omega) (by decide)) ⟨TX11, 52, rfl⟩ ⟨by omega, by omega⟩ (Nat.le_of_ble_eq_true rfl) (by decide +kernel) (nr_mk L1 (And.intro (And.intro rfl (And.intro hM.1 (And.intro (rv 1 (by omega) (by omega)) ((rv 2 (by omega) (by omega)))))) (fun m2 r2 q2 L2 => ?_)))
  show VL G 1090 [kI r2, kI r1] i m2
  obtain ⟨d1, d2⟩ := q2
  have e : r2 = r1 := by rw [b2, d2, hM.2]; rfl
  rw [e]
  refine k_icmp_same (off := 661) (tgt := 1751) (by decide) (by decide +kernel) ?_
  exact nx m2 ((hI.ask b1 d1).le (by omega) (by omega)) L2
set_option maxRecDepth 20000 in
/-- left -/
theorem lc_24 {G : Cxt} {c i : Int} {μ : Mem} (hc : ScOK G) (hI : Inv c μ) (c0 : 0 ≤ c) (hk : c ≤ 999) (hL : Lk μ) (h0 : 0 ≤ i) (h1 : i + 6 ≤ (scL G : Int)) (nx : ∀ m : Mem, Inv (c + 1) m → Lk m → VL G 1751 [] i m) : VL G 1095 [] i μ := by
  have rv : ∀ j : Int, 0 ≤ j → j < 6 → r32 (scV G (i + j)) := fun j j0 j1 => hc.2 _ (by omega) (by omega)
  refine k_aload_n (i := 1) (v := kR ((0 : Nat) : Int)) (Nat.le_refl 2) rfl (by decide +kernel) ?_
  refine l_arg (j := 1) hc (by omega) (by omega) (by decide +kernel) (by decide +kernel) (by decide +kernel) (by decide +kernel) (by decide +kernel) ?_
  refine l_arg (j := 2) hc (by omega) (by omega) (by decide +kernel) (by decide +kernel) (by decide +kernel) (by decide +kernel) (by decide +kernel) ?_
  refine k_callV (ci := 10) (z := ((0 : Nat) : Int)) (as := [kI (scV G (i + 1)), kI (scV G (i + 2))]) (st := []) ct_X10_left mmX10_left vvX10_left lkL_118 ⟨by decide, by decide⟩ rfl (atO_k la_0 (by omega) (by decide)) ⟨TX10, 14, rfl⟩ ⟨by omega, by omega⟩ (Nat.le_of_ble_eq_true rfl) (by decide +kernel) (nr_mk hL (And.intro (And.intro rfl (And.intro ⟨c, hI.1⟩ (And.intro (rv 1 (by omega) (by omega)) ((rv 2 (by omega) (by omega)))))) (fun m1 r1 q1 L1 => ?_)))
  show VL G 1109 [kL r1] i m1
  obtain ⟨b1, b2⟩ := q1
  have hM := hI.mid (fun z hz => b1.2 z (Or.inr hz))
  refine k_aload_n (i := 2) (v := kR ((201 : Nat) : Int)) (Nat.le_refl 2) rfl (by decide +kernel) ?_
  refine l_arg (j := 1) hc (by omega) (by omega) (by decide +kernel) (by decide +kernel) (by decide +kernel) (by decide +kernel) (by decide +kernel) ?_
  refine l_arg (j := 2) hc (by omega) (by omega) (by decide +kernel) (by decide +kernel) (by decide +kernel) (by decide +kernel) (by decide +kernel) ?_
  refine k_callV (ci := 11) (z := ((201 : Nat) : Int)) (as := [kI (scV G (i + 1)), kI (scV G (i + 2))]) (st := [kL r1]) ct_X11_left mmX11_left vvX11_left lkL_121 ⟨by decide, by decide⟩ rfl (atO_k la_201 (by omega) (by decide)) ⟨TX11, 52, rfl⟩ ⟨by omega, by omega⟩ (Nat.le_of_ble_eq_true rfl) (by decide +kernel) (nr_mk L1 (And.intro (And.intro rfl (And.intro hM.1 (And.intro (rv 1 (by omega) (by omega)) ((rv 2 (by omega) (by omega)))))) (fun m2 r2 q2 L2 => ?_)))
  show VL G 1123 [kL r2, kL r1] i m2
  obtain ⟨d1, d2⟩ := q2
  have e : r2 = r1 := by rw [b2, d2, hM.2]; rfl
  rw [e]
  refine k_lcmp_same (by decide +kernel) ?_
  refine k_if_eq (off := 627) (tgt := 1751) (rr32 (by omega)) (by decide) (by decide +kernel) (fun _ => ?_) (fun q => absurd rfl q)
  exact nx m2 ((hI.ask b1 d1).le (by omega) (by omega)) L2
set_option maxRecDepth 20000 in
/-- gain -/
theorem lc_25 {G : Cxt} {c i : Int} {μ : Mem} (hc : ScOK G) (hI : Inv c μ) (c0 : 0 ≤ c) (hk : c ≤ 999) (hL : Lk μ) (h0 : 0 ≤ i) (h1 : i + 6 ≤ (scL G : Int)) (nx : ∀ m : Mem, Inv (c + 1) m → Lk m → VL G 1751 [] i m) : VL G 1129 [] i μ := by
  have rv : ∀ j : Int, 0 ≤ j → j < 6 → r32 (scV G (i + j)) := fun j j0 j1 => hc.2 _ (by omega) (by omega)
  refine k_aload_n (i := 1) (v := kR ((0 : Nat) : Int)) (Nat.le_refl 2) rfl (by decide +kernel) ?_
  refine l_arg (j := 1) hc (by omega) (by omega) (by decide +kernel) (by decide +kernel) (by decide +kernel) (by decide +kernel) (by decide +kernel) ?_
  refine l_arg (j := 2) hc (by omega) (by omega) (by decide +kernel) (by decide +kernel) (by decide +kernel) (by decide +kernel) (by decide +kernel) ?_
  refine k_callV (ci := 10) (z := ((0 : Nat) : Int)) (as := [kI (scV G (i + 1)), kI (scV G (i + 2))]) (st := []) ct_X10_gain mmX10_gain vvX10_gain lkL_122 ⟨by decide, by decide⟩ rfl (atO_k la_0 (by omega) (by decide)) ⟨TX10, 14, rfl⟩ ⟨by omega, by omega⟩ (Nat.le_of_ble_eq_true rfl) (by decide +kernel) (nr_mk hL (And.intro (And.intro rfl (And.intro ⟨c, hI.1⟩ (And.intro (rv 1 (by omega) (by omega)) ((rv 2 (by omega) (by omega)))))) (fun m1 r1 q1 L1 => ?_)))
  show VL G 1143 [kL r1] i m1
  obtain ⟨b1, b2⟩ := q1
  have hM := hI.mid (fun z hz => b1.2 z (Or.inr hz))
  refine k_aload_n (i := 2) (v := kR ((201 : Nat) : Int)) (Nat.le_refl 2) rfl (by decide +kernel) ?_
  refine l_arg (j := 1) hc (by omega) (by omega) (by decide +kernel) (by decide +kernel) (by decide +kernel) (by decide +kernel) (by decide +kernel) ?_
  refine l_arg (j := 2) hc (by omega) (by omega) (by decide +kernel) (by decide +kernel) (by decide +kernel) (by decide +kernel) (by decide +kernel) ?_
  refine k_callV (ci := 11) (z := ((201 : Nat) : Int)) (as := [kI (scV G (i + 1)), kI (scV G (i + 2))]) (st := [kL r1]) ct_X11_gain mmX11_gain vvX11_gain lkL_125 ⟨by decide, by decide⟩ rfl (atO_k la_201 (by omega) (by decide)) ⟨TX11, 52, rfl⟩ ⟨by omega, by omega⟩ (Nat.le_of_ble_eq_true rfl) (by decide +kernel) (nr_mk L1 (And.intro (And.intro rfl (And.intro hM.1 (And.intro (rv 1 (by omega) (by omega)) ((rv 2 (by omega) (by omega)))))) (fun m2 r2 q2 L2 => ?_)))
  show VL G 1157 [kL r2, kL r1] i m2
  obtain ⟨d1, d2⟩ := q2
  have e : r2 = r1 := by rw [b2, d2, hM.2]; rfl
  rw [e]
  refine k_lcmp_same (by decide +kernel) ?_
  refine k_if_eq (off := 593) (tgt := 1751) (rr32 (by omega)) (by decide) (by decide +kernel) (fun _ => ?_) (fun q => absurd rfl q)
  exact nx m2 ((hI.ask b1 d1).le (by omega) (by omega)) L2
set_option maxRecDepth 20000 in
/-- leave -/
theorem lc_26 {G : Cxt} {c i : Int} {μ : Mem} (hc : ScOK G) (hI : Inv c μ) (c0 : 0 ≤ c) (hk : c ≤ 999) (hL : Lk μ) (h0 : 0 ≤ i) (h1 : i + 6 ≤ (scL G : Int)) (nx : ∀ m : Mem, Inv (c + 1) m → Lk m → VL G 1751 [] i m) : VL G 1163 [] i μ := by
  have rv : ∀ j : Int, 0 ≤ j → j < 6 → r32 (scV G (i + j)) := fun j j0 j1 => hc.2 _ (by omega) (by omega)
  refine k_aload_n (i := 1) (v := kR ((0 : Nat) : Int)) (Nat.le_refl 2) rfl (by decide +kernel) ?_
  refine l_arg (j := 1) hc (by omega) (by omega) (by decide +kernel) (by decide +kernel) (by decide +kernel) (by decide +kernel) (by decide +kernel) ?_
  refine k_callV (ci := 10) (z := ((0 : Nat) : Int)) (as := [kI (scV G (i + 1))]) (st := []) ct_X10_leave mmX10_leave vvX10_leave lkL_126 ⟨by decide, by decide⟩ rfl (atO_k la_0 (by omega) (by decide)) ⟨TX10, 14, rfl⟩ ⟨by omega, by omega⟩ (Nat.le_of_ble_eq_true rfl) (by decide +kernel) (nr_mk hL (And.intro (And.intro rfl (And.intro ⟨c, hI.1⟩ ((rv 1 (by omega) (by omega))))) (fun m1 r1 q1 L1 => ?_)))
  show VL G 1172 [kI r1] i m1
  obtain ⟨b1, b2⟩ := q1
  have hM := hI.mid (fun z hz => b1.2 z (Or.inr hz))
  refine k_aload_n (i := 2) (v := kR ((201 : Nat) : Int)) (Nat.le_refl 2) rfl (by decide +kernel) ?_
  refine l_arg (j := 1) hc (by omega) (by omega) (by decide +kernel) (by decide +kernel) (by decide +kernel) (by decide +kernel) (by decide +kernel) ?_
  refine k_callV (ci := 11) (z := ((201 : Nat) : Int)) (as := [kI (scV G (i + 1))]) (st := [kI r1]) ct_X11_leave mmX11_leave vvX11_leave lkL_129 ⟨by decide, by decide⟩ rfl (atO_k la_201 (by omega) (by decide)) ⟨TX11, 52, rfl⟩ ⟨by omega, by omega⟩ (Nat.le_of_ble_eq_true rfl) (by decide +kernel) (nr_mk L1 (And.intro (And.intro rfl (And.intro hM.1 ((rv 1 (by omega) (by omega))))) (fun m2 r2 q2 L2 => ?_)))
  show VL G 1181 [kI r2, kI r1] i m2
  obtain ⟨d1, d2⟩ := q2
  have e : r2 = r1 := by rw [b2, d2, hM.2]; rfl
  rw [e]
  refine k_icmp_same (off := 570) (tgt := 1751) (by decide) (by decide +kernel) ?_
  exact nx m2 ((hI.ask b1 d1).le (by omega) (by omega)) L2
set_option maxRecDepth 20000 in
/-- chase -/
theorem lc_27 {G : Cxt} {c i : Int} {μ : Mem} (hc : ScOK G) (hI : Inv c μ) (c0 : 0 ≤ c) (hk : c ≤ 999) (hL : Lk μ) (h0 : 0 ≤ i) (h1 : i + 6 ≤ (scL G : Int)) (nx : ∀ m : Mem, Inv (c + 1) m → Lk m → VL G 1751 [] i m) : VL G 1186 [] i μ := by
  have rv : ∀ j : Int, 0 ≤ j → j < 6 → r32 (scV G (i + j)) := fun j j0 j1 => hc.2 _ (by omega) (by omega)
  refine k_aload_n (i := 1) (v := kR ((0 : Nat) : Int)) (Nat.le_refl 2) rfl (by decide +kernel) ?_
  refine l_arg (j := 1) hc (by omega) (by omega) (by decide +kernel) (by decide +kernel) (by decide +kernel) (by decide +kernel) (by decide +kernel) ?_
  refine l_arg (j := 2) hc (by omega) (by omega) (by decide +kernel) (by decide +kernel) (by decide +kernel) (by decide +kernel) (by decide +kernel) ?_
  refine l_arg (j := 3) hc (by omega) (by omega) (by decide +kernel) (by decide +kernel) (by decide +kernel) (by decide +kernel) (by decide +kernel) ?_
  refine k_callV (ci := 10) (z := ((0 : Nat) : Int)) (as := [kI (scV G (i + 1)), kI (scV G (i + 2)), kI (scV G (i + 3))]) (st := []) ct_X10_chase mmX10_chase vvX10_chase lkL_130 ⟨by decide, by decide⟩ rfl (atO_k la_0 (by omega) (by decide)) ⟨TX10, 14, rfl⟩ ⟨by omega, by omega⟩ (Nat.le_of_ble_eq_true rfl) (by decide +kernel) (nr_mk hL (And.intro (And.intro rfl (And.intro ⟨c, hI.1⟩ (And.intro (rv 1 (by omega) (by omega)) (And.intro (rv 2 (by omega) (by omega)) ((rv 3 (by omega) (by omega))))))) (fun m1 r1 q1 L1 => ?_)))
  show VL G 1205 [kI r1] i m1
  obtain ⟨b1, b2⟩ := q1
  have hM := hI.mid (fun z hz => b1.2 z (Or.inr hz))
  refine k_aload_n (i := 2) (v := kR ((201 : Nat) : Int)) (Nat.le_refl 2) rfl (by decide +kernel) ?_
  refine l_arg (j := 1) hc (by omega) (by omega) (by decide +kernel) (by decide +kernel) (by decide +kernel) (by decide +kernel) (by decide +kernel) ?_
  refine l_arg (j := 2) hc (by omega) (by omega) (by decide +kernel) (by decide +kernel) (by decide +kernel) (by decide +kernel) (by decide +kernel) ?_
  refine l_arg (j := 3) hc (by omega) (by omega) (by decide +kernel) (by decide +kernel) (by decide +kernel) (by decide +kernel) (by decide +kernel) ?_
  refine k_callV (ci := 11) (z := ((201 : Nat) : Int)) (as := [kI (scV G (i + 1)), kI (scV G (i + 2)), kI (scV G (i + 3))]) (st := [kI r1]) ct_X11_chase mmX11_chase vvX11_chase lkL_133 ⟨by decide, by decide⟩ rfl (atO_k la_201 (by omega) (by decide)) ⟨TX11, 52, rfl⟩ ⟨by omega, by omega⟩ (Nat.le_of_ble_eq_true rfl) (by decide +kernel) (nr_mk L1 (And.intro (And.intro rfl (And.intro hM.1 (And.intro (rv 1 (by omega) (by omega)) (And.intro (rv 2 (by omega) (by omega)) ((rv 3 (by omega) (by omega))))))) (fun m2 r2 q2 L2 => ?_)))
  show VL G 1224 [kI r2, kI r1] i m2
  obtain ⟨d1, d2⟩ := q2
  have e : r2 = r1 := by rw [b2, d2, hM.2]; rfl
  rw [e]
  refine k_icmp_same (off := 527) (tgt := 1751) (by decide) (by decide +kernel) ?_
  exact nx m2 ((hI.ask b1 d1).le (by omega) (by omega)) L2
set_option maxRecDepth 20000 in
/-- caught -/
theorem lc_28 {G : Cxt} {c i : Int} {μ : Mem} (hc : ScOK G) (hI : Inv c μ) (c0 : 0 ≤ c) (hk : c ≤ 999) (hL : Lk μ) (h0 : 0 ≤ i) (h1 : i + 6 ≤ (scL G : Int)) (nx : ∀ m : Mem, Inv (c + 1) m → Lk m → VL G 1751 [] i m) : VL G 1229 [] i μ := by
  have rv : ∀ j : Int, 0 ≤ j → j < 6 → r32 (scV G (i + j)) := fun j j0 j1 => hc.2 _ (by omega) (by omega)
  refine k_aload_n (i := 1) (v := kR ((0 : Nat) : Int)) (Nat.le_refl 2) rfl (by decide +kernel) ?_
  refine l_arg (j := 1) hc (by omega) (by omega) (by decide +kernel) (by decide +kernel) (by decide +kernel) (by decide +kernel) (by decide +kernel) ?_
  refine l_arg (j := 2) hc (by omega) (by omega) (by decide +kernel) (by decide +kernel) (by decide +kernel) (by decide +kernel) (by decide +kernel) ?_
  refine k_callV (ci := 10) (z := ((0 : Nat) : Int)) (as := [kI (scV G (i + 1)), kI (scV G (i + 2))]) (st := []) ct_X10_caught mmX10_caught vvX10_caught lkL_134 ⟨by decide, by decide⟩ rfl (atO_k la_0 (by omega) (by decide)) ⟨TX10, 14, rfl⟩ ⟨by omega, by omega⟩ (Nat.le_of_ble_eq_true rfl) (by decide +kernel) (nr_mk hL (And.intro (And.intro rfl (And.intro ⟨c, hI.1⟩ (And.intro (rv 1 (by omega) (by omega)) ((rv 2 (by omega) (by omega)))))) (fun m1 r1 q1 L1 => ?_)))
  show VL G 1243 [kL r1] i m1
  obtain ⟨b1, b2⟩ := q1
  have hM := hI.mid (fun z hz => b1.2 z (Or.inr hz))
  refine k_aload_n (i := 2) (v := kR ((201 : Nat) : Int)) (Nat.le_refl 2) rfl (by decide +kernel) ?_
  refine l_arg (j := 1) hc (by omega) (by omega) (by decide +kernel) (by decide +kernel) (by decide +kernel) (by decide +kernel) (by decide +kernel) ?_
  refine l_arg (j := 2) hc (by omega) (by omega) (by decide +kernel) (by decide +kernel) (by decide +kernel) (by decide +kernel) (by decide +kernel) ?_
  refine k_callV (ci := 11) (z := ((201 : Nat) : Int)) (as := [kI (scV G (i + 1)), kI (scV G (i + 2))]) (st := [kL r1]) ct_X11_caught mmX11_caught vvX11_caught lkL_137 ⟨by decide, by decide⟩ rfl (atO_k la_201 (by omega) (by decide)) ⟨TX11, 52, rfl⟩ ⟨by omega, by omega⟩ (Nat.le_of_ble_eq_true rfl) (by decide +kernel) (nr_mk L1 (And.intro (And.intro rfl (And.intro hM.1 (And.intro (rv 1 (by omega) (by omega)) ((rv 2 (by omega) (by omega)))))) (fun m2 r2 q2 L2 => ?_)))
  show VL G 1257 [kL r2, kL r1] i m2
  obtain ⟨d1, d2⟩ := q2
  have e : r2 = r1 := by rw [b2, d2, hM.2]; rfl
  rw [e]
  refine k_lcmp_same (by decide +kernel) ?_
  refine k_if_eq (off := 493) (tgt := 1751) (rr32 (by omega)) (by decide) (by decide +kernel) (fun _ => ?_) (fun q => absurd rfl q)
  exact nx m2 ((hI.ask b1 d1).le (by omega) (by omega)) L2
set_option maxRecDepth 20000 in
/-- bell -/
theorem lc_29 {G : Cxt} {c i : Int} {μ : Mem} (hc : ScOK G) (hI : Inv c μ) (c0 : 0 ≤ c) (hk : c ≤ 999) (hL : Lk μ) (h0 : 0 ≤ i) (h1 : i + 6 ≤ (scL G : Int)) (nx : ∀ m : Mem, Inv (c + 1) m → Lk m → VL G 1751 [] i m) : VL G 1263 [] i μ := by
  have rv : ∀ j : Int, 0 ≤ j → j < 6 → r32 (scV G (i + j)) := fun j j0 j1 => hc.2 _ (by omega) (by omega)
  refine k_aload_n (i := 1) (v := kR ((0 : Nat) : Int)) (Nat.le_refl 2) rfl (by decide +kernel) ?_
  refine l_arg (j := 1) hc (by omega) (by omega) (by decide +kernel) (by decide +kernel) (by decide +kernel) (by decide +kernel) (by decide +kernel) ?_
  refine l_arg (j := 2) hc (by omega) (by omega) (by decide +kernel) (by decide +kernel) (by decide +kernel) (by decide +kernel) (by decide +kernel) ?_
  refine l_arg (j := 3) hc (by omega) (by omega) (by decide +kernel) (by decide +kernel) (by decide +kernel) (by decide +kernel) (by decide +kernel) ?_
  refine k_callV (ci := 10) (z := ((0 : Nat) : Int)) (as := [kI (scV G (i + 1)), kI (scV G (i + 2)), kI (scV G (i + 3))]) (st := []) ct_X10_bell mmX10_bell vvX10_bell lkL_138 ⟨by decide, by decide⟩ rfl (atO_k la_0 (by omega) (by decide)) ⟨TX10, 14, rfl⟩ ⟨by omega, by omega⟩ (Nat.le_of_ble_eq_true rfl) (by decide +kernel) (nr_mk hL (And.intro (And.intro rfl (And.intro ⟨c, hI.1⟩ (And.intro (rv 1 (by omega) (by omega)) (And.intro (rv 2 (by omega) (by omega)) ((rv 3 (by omega) (by omega))))))) (fun m1 r1 q1 L1 => ?_)))
  show VL G 1282 [kI r1] i m1
  obtain ⟨b1, b2⟩ := q1
  have hM := hI.mid (fun z hz => b1.2 z (Or.inr hz))
  refine k_aload_n (i := 2) (v := kR ((201 : Nat) : Int)) (Nat.le_refl 2) rfl (by decide +kernel) ?_
  refine l_arg (j := 1) hc (by omega) (by omega) (by decide +kernel) (by decide +kernel) (by decide +kernel) (by decide +kernel) (by decide +kernel) ?_
  refine l_arg (j := 2) hc (by omega) (by omega) (by decide +kernel) (by decide +kernel) (by decide +kernel) (by decide +kernel) (by decide +kernel) ?_
  refine l_arg (j := 3) hc (by omega) (by omega) (by decide +kernel) (by decide +kernel) (by decide +kernel) (by decide +kernel) (by decide +kernel) ?_
  refine k_callV (ci := 11) (z := ((201 : Nat) : Int)) (as := [kI (scV G (i + 1)), kI (scV G (i + 2)), kI (scV G (i + 3))]) (st := [kI r1]) ct_X11_bell mmX11_bell vvX11_bell lkL_141 ⟨by decide, by decide⟩ rfl (atO_k la_201 (by omega) (by decide)) ⟨TX11, 52, rfl⟩ ⟨by omega, by omega⟩ (Nat.le_of_ble_eq_true rfl) (by decide +kernel) (nr_mk L1 (And.intro (And.intro rfl (And.intro hM.1 (And.intro (rv 1 (by omega) (by omega)) (And.intro (rv 2 (by omega) (by omega)) ((rv 3 (by omega) (by omega))))))) (fun m2 r2 q2 L2 => ?_)))
  show VL G 1301 [kI r2, kI r1] i m2
  obtain ⟨d1, d2⟩ := q2
  have e : r2 = r1 := by rw [b2, d2, hM.2]; rfl
  rw [e]
  refine k_icmp_same (off := 450) (tgt := 1751) (by decide) (by decide +kernel) ?_
  exact nx m2 ((hI.ask b1 d1).le (by omega) (by omega)) L2
set_option maxRecDepth 20000 in
/-- postman -/
theorem lc_30 {G : Cxt} {c i : Int} {μ : Mem} (hc : ScOK G) (hI : Inv c μ) (c0 : 0 ≤ c) (hk : c ≤ 999) (hL : Lk μ) (h0 : 0 ≤ i) (h1 : i + 6 ≤ (scL G : Int)) (nx : ∀ m : Mem, Inv (c + 1) m → Lk m → VL G 1751 [] i m) : VL G 1306 [] i μ := by
  have rv : ∀ j : Int, 0 ≤ j → j < 6 → r32 (scV G (i + j)) := fun j j0 j1 => hc.2 _ (by omega) (by omega)
  refine k_aload_n (i := 1) (v := kR ((0 : Nat) : Int)) (Nat.le_refl 2) rfl (by decide +kernel) ?_
  refine l_arg (j := 1) hc (by omega) (by omega) (by decide +kernel) (by decide +kernel) (by decide +kernel) (by decide +kernel) (by decide +kernel) ?_
  refine l_arg (j := 2) hc (by omega) (by omega) (by decide +kernel) (by decide +kernel) (by decide +kernel) (by decide +kernel) (by decide +kernel) ?_
  refine k_callV (ci := 10) (z := ((0 : Nat) : Int)) (as := [kI (scV G (i + 1)), kI (scV G (i + 2))]) (st := []) ct_X10_postman mmX10_postman vvX10_postman lkL_142 ⟨by decide, by decide⟩ rfl (atO_k la_0 (by omega) (by decide)) ⟨TX10, 14, rfl⟩ ⟨by omega, by omega⟩ (Nat.le_of_ble_eq_true rfl) (by decide +kernel) (nr_mk hL (And.intro (And.intro rfl (And.intro ⟨c, hI.1⟩ (And.intro (rv 1 (by omega) (by omega)) ((rv 2 (by omega) (by omega)))))) (fun m1 r1 q1 L1 => ?_)))
  show VL G 1320 [kI r1] i m1
  obtain ⟨b1, b2⟩ := q1
  have hM := hI.mid (fun z hz => b1.2 z (Or.inr hz))
  refine k_aload_n (i := 2) (v := kR ((201 : Nat) : Int)) (Nat.le_refl 2) rfl (by decide +kernel) ?_
  refine l_arg (j := 1) hc (by omega) (by omega) (by decide +kernel) (by decide +kernel) (by decide +kernel) (by decide +kernel) (by decide +kernel) ?_
  refine l_arg (j := 2) hc (by omega) (by omega) (by decide +kernel) (by decide +kernel) (by decide +kernel) (by decide +kernel) (by decide +kernel) ?_
  refine k_callV (ci := 11) (z := ((201 : Nat) : Int)) (as := [kI (scV G (i + 1)), kI (scV G (i + 2))]) (st := [kI r1]) ct_X11_postman mmX11_postman vvX11_postman lkL_145 ⟨by decide, by decide⟩ rfl (atO_k la_201 (by omega) (by decide)) ⟨TX11, 52, rfl⟩ ⟨by omega, by omega⟩ (Nat.le_of_ble_eq_true rfl) (by decide +kernel) (nr_mk L1 (And.intro (And.intro rfl (And.intro hM.1 (And.intro (rv 1 (by omega) (by omega)) ((rv 2 (by omega) (by omega)))))) (fun m2 r2 q2 L2 => ?_)))
  show VL G 1334 [kI r2, kI r1] i m2
  obtain ⟨d1, d2⟩ := q2
  have e : r2 = r1 := by rw [b2, d2, hM.2]; rfl
  rw [e]
  refine k_icmp_same (off := 417) (tgt := 1751) (by decide) (by decide +kernel) ?_
  exact nx m2 ((hI.ask b1 d1).le (by omega) (by omega)) L2
set_option maxRecDepth 20000 in
/-- guard -/
theorem lc_31 {G : Cxt} {c i : Int} {μ : Mem} (hc : ScOK G) (hI : Inv c μ) (c0 : 0 ≤ c) (hk : c ≤ 999) (hL : Lk μ) (h0 : 0 ≤ i) (h1 : i + 6 ≤ (scL G : Int)) (nx : ∀ m : Mem, Inv (c + 1) m → Lk m → VL G 1751 [] i m) : VL G 1339 [] i μ := by
  have rv : ∀ j : Int, 0 ≤ j → j < 6 → r32 (scV G (i + j)) := fun j j0 j1 => hc.2 _ (by omega) (by omega)
  refine k_aload_n (i := 1) (v := kR ((0 : Nat) : Int)) (Nat.le_refl 2) rfl (by decide +kernel) ?_
  refine l_arg (j := 1) hc (by omega) (by omega) (by decide +kernel) (by decide +kernel) (by decide +kernel) (by decide +kernel) (by decide +kernel) ?_
  refine l_arg (j := 2) hc (by omega) (by omega) (by decide +kernel) (by decide +kernel) (by decide +kernel) (by decide +kernel) (by decide +kernel) ?_
  refine k_callV (ci := 10) (z := ((0 : Nat) : Int)) (as := [kI (scV G (i + 1)), kI (scV G (i + 2))]) (st := []) ct_X10_guard mmX10_guard vvX10_guard lkL_146 ⟨by decide, by decide⟩ rfl (atO_k la_0 (by omega) (by decide)) ⟨TX10, 14, rfl⟩ ⟨by omega, by omega⟩ (Nat.le_of_ble_eq_true rfl) (by decide +kernel) (nr_mk hL (And.intro (And.intro rfl (And.intro ⟨c, hI.1⟩ (And.intro (rv 1 (by omega) (by omega)) ((rv 2 (by omega) (by omega)))))) (fun m1 r1 q1 L1 => ?_)))
  show VL G 1353 [kL r1] i m1
  obtain ⟨b1, b2⟩ := q1
  have hM := hI.mid (fun z hz => b1.2 z (Or.inr hz))
  refine k_aload_n (i := 2) (v := kR ((201 : Nat) : Int)) (Nat.le_refl 2) rfl (by decide +kernel) ?_
  refine l_arg (j := 1) hc (by omega) (by omega) (by decide +kernel) (by decide +kernel) (by decide +kernel) (by decide +kernel) (by decide +kernel) ?_
  refine l_arg (j := 2) hc (by omega) (by omega) (by decide +kernel) (by decide +kernel) (by decide +kernel) (by decide +kernel) (by decide +kernel) ?_
  refine k_callV (ci := 11) (z := ((201 : Nat) : Int)) (as := [kI (scV G (i + 1)), kI (scV G (i + 2))]) (st := [kL r1]) ct_X11_guard mmX11_guard vvX11_guard lkL_149 ⟨by decide, by decide⟩ rfl (atO_k la_201 (by omega) (by decide)) ⟨TX11, 52, rfl⟩ ⟨by omega, by omega⟩ (Nat.le_of_ble_eq_true rfl) (by decide +kernel) (nr_mk L1 (And.intro (And.intro rfl (And.intro hM.1 (And.intro (rv 1 (by omega) (by omega)) ((rv 2 (by omega) (by omega)))))) (fun m2 r2 q2 L2 => ?_)))
  show VL G 1367 [kL r2, kL r1] i m2
  obtain ⟨d1, d2⟩ := q2
  have e : r2 = r1 := by rw [b2, d2, hM.2]; rfl
  rw [e]
  refine k_lcmp_same (by decide +kernel) ?_
  refine k_if_eq (off := 383) (tgt := 1751) (rr32 (by omega)) (by decide) (by decide +kernel) (fun _ => ?_) (fun q => absurd rfl q)
  exact nx m2 ((hI.ask b1 d1).le (by omega) (by omega)) L2
set_option maxRecDepth 20000 in
/-- open -/
theorem lc_32 {G : Cxt} {c i : Int} {μ : Mem} (hc : ScOK G) (hI : Inv c μ) (c0 : 0 ≤ c) (hk : c ≤ 999) (hL : Lk μ) (h0 : 0 ≤ i) (h1 : i + 6 ≤ (scL G : Int)) (nx : ∀ m : Mem, Inv (c + 1) m → Lk m → VL G 1751 [] i m) : VL G 1373 [] i μ := by
  have rv : ∀ j : Int, 0 ≤ j → j < 6 → r32 (scV G (i + j)) := fun j j0 j1 => hc.2 _ (by omega) (by omega)
  refine k_aload_n (i := 1) (v := kR ((0 : Nat) : Int)) (Nat.le_refl 2) rfl (by decide +kernel) ?_
  refine l_arg (j := 1) hc (by omega) (by omega) (by decide +kernel) (by decide +kernel) (by decide +kernel) (by decide +kernel) (by decide +kernel) ?_
  refine l_arg (j := 2) hc (by omega) (by omega) (by decide +kernel) (by decide +kernel) (by decide +kernel) (by decide +kernel) (by decide +kernel) ?_
  refine l_arg (j := 3) hc (by omega) (by omega) (by decide +kernel) (by decide +kernel) (by decide +kernel) (by decide +kernel) (by decide +kernel) ?_
  refine k_callV (ci := 10) (z := ((0 : Nat) : Int)) (as := [kI (scV G (i + 1)), kI (scV G (i + 2)), kI (scV G (i + 3))]) (st := []) ct_X10_open mmX10_open vvX10_open lkL_150 ⟨by decide, by decide⟩ rfl (atO_k la_0 (by omega) (by decide)) ⟨TX10, 14, rfl⟩ ⟨by omega, by omega⟩ (Nat.le_of_ble_eq_true rfl) (by decide +kernel) (nr_mk hL (And.intro (And.intro rfl (And.intro ⟨c, hI.1⟩ (And.intro (rv 1 (by omega) (by omega)) (And.intro (rv 2 (by omega) (by omega)) ((rv 3 (by omega) (by omega))))))) (fun m1 r1 q1 L1 => ?_)))
  show VL G 1392 [kL r1] i m1
  obtain ⟨b1, b2⟩ := q1
  have hM := hI.mid (fun z hz => b1.2 z (Or.inr hz))
  refine k_aload_n (i := 2) (v := kR ((201 : Nat) : Int)) (Nat.le_refl 2) rfl (by decide +kernel) ?_
  refine l_arg (j := 1) hc (by omega) (by omega) (by decide +kernel) (by decide +kernel) (by decide +kernel) (by decide +kernel) (by decide +kernel) ?_
  refine l_arg (j := 2) hc (by omega) (by omega) (by decide +kernel) (by decide +kernel) (by decide +kernel) (by decide +kernel) (by decide +kernel) ?_
  refine l_arg (j := 3) hc (by omega) (by omega) (by decide +kernel) (by decide +kernel) (by decide +kernel) (by decide +kernel) (by decide +kernel) ?_
  refine k_callV (ci := 11) (z := ((201 : Nat) : Int)) (as := [kI (scV G (i + 1)), kI (scV G (i + 2)), kI (scV G (i + 3))]) (st := [kL r1]) ct_X11_open mmX11_open vvX11_open lkL_153 ⟨by decide, by decide⟩ rfl (atO_k la_201 (by omega) (by decide)) ⟨TX11, 52, rfl⟩ ⟨by omega, by omega⟩ (Nat.le_of_ble_eq_true rfl) (by decide +kernel) (nr_mk L1 (And.intro (And.intro rfl (And.intro hM.1 (And.intro (rv 1 (by omega) (by omega)) (And.intro (rv 2 (by omega) (by omega)) ((rv 3 (by omega) (by omega))))))) (fun m2 r2 q2 L2 => ?_)))
  show VL G 1411 [kL r2, kL r1] i m2
  obtain ⟨d1, d2⟩ := q2
  have e : r2 = r1 := by rw [b2, d2, hM.2]; rfl
  rw [e]
  refine k_lcmp_same (by decide +kernel) ?_
  refine k_if_eq (off := 339) (tgt := 1751) (rr32 (by omega)) (by decide) (by decide +kernel) (fun _ => ?_) (fun q => absurd rfl q)
  exact nx m2 ((hI.ask b1 d1).le (by omega) (by omega)) L2
set_option maxRecDepth 20000 in
/-- right -/
theorem lc_33 {G : Cxt} {c i : Int} {μ : Mem} (hc : ScOK G) (hI : Inv c μ) (c0 : 0 ≤ c) (hk : c ≤ 999) (hL : Lk μ) (h0 : 0 ≤ i) (h1 : i + 6 ≤ (scL G : Int)) (nx : ∀ m : Mem, Inv (c + 1) m → Lk m → VL G 1751 [] i m) : VL G 1417 [] i μ := by
  have rv : ∀ j : Int, 0 ≤ j → j < 6 → r32 (scV G (i + j)) := fun j j0 j1 => hc.2 _ (by omega) (by omega)
  refine k_aload_n (i := 1) (v := kR ((0 : Nat) : Int)) (Nat.le_refl 2) rfl (by decide +kernel) ?_
  refine l_arg (j := 1) hc (by omega) (by omega) (by decide +kernel) (by decide +kernel) (by decide +kernel) (by decide +kernel) (by decide +kernel) ?_
  refine l_arg (j := 2) hc (by omega) (by omega) (by decide +kernel) (by decide +kernel) (by decide +kernel) (by decide +kernel) (by decide +kernel) ?_
  refine l_arg (j := 3) hc (by omega) (by omega) (by decide +kernel) (by decide +kernel) (by decide +kernel) (by decide +kernel) (by decide +kernel) ?_
  refine k_callV (ci := 10) (z := ((0 : Nat) : Int)) (as := [kI (scV G (i + 1)), kI (scV G (i + 2)), kI (scV G (i + 3))]) (st := []) ct_X10_right mmX10_right vvX10_right lkL_154 ⟨by decide, by decide⟩ rfl (atO_k la_0 (by omega) (by decide)) ⟨TX10, 14, rfl⟩ ⟨by omega, by omega⟩ (Nat.le_of_ble_eq_true rfl) (by decide +kernel) (nr_mk hL (And.intro (And.intro rfl (And.intro ⟨c, hI.1⟩ (And.intro (rv 1 (by omega) (by omega)) (And.intro (rv 2 (by omega) (by omega)) ((rv 3 (by omega) (by omega))))))) (fun m1 r1 q1 L1 => ?_)))
  show VL G 1436 [kI r1] i m1
  obtain ⟨b1, b2⟩ := q1
  have hM := hI.mid (fun z hz => b1.2 z (Or.inr hz))
  refine k_aload_n (i := 2) (v := kR ((201 : Nat) : Int)) (Nat.le_refl 2) rfl (by decide +kernel) ?_
  refine l_arg (j := 1) hc (by omega) (by omega) (by decide +kernel) (by decide +kernel) (by decide +kernel) (by decide +kernel) (by decide +kernel) ?_
  refine l_arg (j := 2) hc (by omega) (by omega) (by decide +kernel) (by decide +kernel) (by decide +kernel) (by decide +kernel) (by decide +kernel) ?_
  refine l_arg (j := 3) hc (by omega) (by omega) (by decide +kernel) (by decide +kernel) (by decide +kernel) (by decide +kernel) (by decide +kernel) ?_
  refine k_callV (ci := 11) (z := ((201 : Nat) : Int)) (as := [kI (scV G (i + 1)), kI (scV G (i + 2)), kI (scV G (i + 3))]) (st := [kI r1]) ct_X11_right mmX11_right vvX11_right lkL_157 ⟨by decide, by decide⟩ rfl (atO_k la_201 (by omega) (by decide)) ⟨TX11, 52, rfl⟩ ⟨by omega, by omega⟩ (Nat.le_of_ble_eq_true rfl) (by decide +kernel) (nr_mk L1 (And.intro (And.intro rfl (And.intro hM.1 (And.intro (rv 1 (by omega) (by omega)) (And.intro (rv 2 (by omega) (by omega)) ((rv 3 (by omega) (by omega))))))) (fun m2 r2 q2 L2 => ?_)))
  show VL G 1455 [kI r2, kI r1] i m2
  obtain ⟨d1, d2⟩ := q2
  have e : r2 = r1 := by rw [b2, d2, hM.2]; rfl
  rw [e]
  refine k_icmp_same (off := 296) (tgt := 1751) (by decide) (by decide +kernel) ?_
  exact nx m2 ((hI.ask b1 d1).le (by omega) (by omega)) L2
set_option maxRecDepth 20000 in
/-- box -/
theorem lc_34 {G : Cxt} {c i : Int} {μ : Mem} (hc : ScOK G) (hI : Inv c μ) (c0 : 0 ≤ c) (hk : c ≤ 999) (hL : Lk μ) (h0 : 0 ≤ i) (h1 : i + 6 ≤ (scL G : Int)) (nx : ∀ m : Mem, Inv (c + 1) m → Lk m → VL G 1751 [] i m) : VL G 1460 [] i μ := by
  have rv : ∀ j : Int, 0 ≤ j → j < 6 → r32 (scV G (i + j)) := fun j j0 j1 => hc.2 _ (by omega) (by omega)
  refine k_aload_n (i := 1) (v := kR ((0 : Nat) : Int)) (Nat.le_refl 2) rfl (by decide +kernel) ?_
  refine l_arg (j := 1) hc (by omega) (by omega) (by decide +kernel) (by decide +kernel) (by decide +kernel) (by decide +kernel) (by decide +kernel) ?_
  refine l_arg (j := 2) hc (by omega) (by omega) (by decide +kernel) (by decide +kernel) (by decide +kernel) (by decide +kernel) (by decide +kernel) ?_
  refine k_callV (ci := 10) (z := ((0 : Nat) : Int)) (as := [kI (scV G (i + 1)), kI (scV G (i + 2))]) (st := []) ct_X10_box mmX10_box vvX10_box lkL_158 ⟨by decide, by decide⟩ rfl (atO_k la_0 (by omega) (by decide)) ⟨TX10, 14, rfl⟩ ⟨by omega, by omega⟩ (Nat.le_of_ble_eq_true rfl) (by decide +kernel) (nr_mk hL (And.intro (And.intro rfl (And.intro ⟨c, hI.1⟩ (And.intro (rv 1 (by omega) (by omega)) ((rv 2 (by omega) (by omega)))))) (fun m1 r1 q1 L1 => ?_)))
  show VL G 1474 [kI r1] i m1
  obtain ⟨b1, b2⟩ := q1
  have hM := hI.mid (fun z hz => b1.2 z (Or.inr hz))
  refine k_aload_n (i := 2) (v := kR ((201 : Nat) : Int)) (Nat.le_refl 2) rfl (by decide +kernel) ?_
  refine l_arg (j := 1) hc (by omega) (by omega) (by decide +kernel) (by decide +kernel) (by decide +kernel) (by decide +kernel) (by decide +kernel) ?_
  refine l_arg (j := 2) hc (by omega) (by omega) (by decide +kernel) (by decide +kernel) (by decide +kernel) (by decide +kernel) (by decide +kernel) ?_
  refine k_callV (ci := 11) (z := ((201 : Nat) : Int)) (as := [kI (scV G (i + 1)), kI (scV G (i + 2))]) (st := [kI r1]) ct_X11_box mmX11_box vvX11_box lkL_161 ⟨by decide, by decide⟩ rfl (atO_k la_201 (by omega) (by decide)) ⟨TX11, 52, rfl⟩ ⟨by omega, by omega⟩ (Nat.le_of_ble_eq_true rfl) (by decide +kernel) (nr_mk L1 (And.intro (And.intro rfl (And.intro hM.1 (And.intro (rv 1 (by omega) (by omega)) ((rv 2 (by omega) (by omega)))))) (fun m2 r2 q2 L2 => ?_)))
  show VL G 1488 [kI r2, kI r1] i m2
  obtain ⟨d1, d2⟩ := q2
  have e : r2 = r1 := by rw [b2, d2, hM.2]; rfl
  rw [e]
  refine k_icmp_same (off := 263) (tgt := 1751) (by decide) (by decide +kernel) ?_
  exact nx m2 ((hI.ask b1 d1).le (by omega) (by omega)) L2
set_option maxRecDepth 20000 in
/-- diary -/
theorem lc_35 {G : Cxt} {c i : Int} {μ : Mem} (hc : ScOK G) (hI : Inv c μ) (c0 : 0 ≤ c) (hk : c ≤ 999) (hL : Lk μ) (h0 : 0 ≤ i) (h1 : i + 6 ≤ (scL G : Int)) (nx : ∀ m : Mem, Inv (c + 1) m → Lk m → VL G 1751 [] i m) : VL G 1493 [] i μ := by
  have rv : ∀ j : Int, 0 ≤ j → j < 6 → r32 (scV G (i + j)) := fun j j0 j1 => hc.2 _ (by omega) (by omega)
  refine k_aload_n (i := 1) (v := kR ((0 : Nat) : Int)) (Nat.le_refl 2) rfl (by decide +kernel) ?_
  refine l_arg (j := 1) hc (by omega) (by omega) (by decide +kernel) (by decide +kernel) (by decide +kernel) (by decide +kernel) (by decide +kernel) ?_
  refine l_arg (j := 2) hc (by omega) (by omega) (by decide +kernel) (by decide +kernel) (by decide +kernel) (by decide +kernel) (by decide +kernel) ?_
  refine k_callV (ci := 10) (z := ((0 : Nat) : Int)) (as := [kI (scV G (i + 1)), kI (scV G (i + 2))]) (st := []) ct_X10_diary mmX10_diary vvX10_diary lkL_162 ⟨by decide, by decide⟩ rfl (atO_k la_0 (by omega) (by decide)) ⟨TX10, 14, rfl⟩ ⟨by omega, by omega⟩ (Nat.le_of_ble_eq_true rfl) (by decide +kernel) (nr_mk hL (And.intro (And.intro rfl (And.intro ⟨c, hI.1⟩ (And.intro (rv 1 (by omega) (by omega)) ((rv 2 (by omega) (by omega)))))) (fun m1 r1 q1 L1 => ?_)))
  show VL G 1507 [kI r1] i m1
  obtain ⟨b1, b2, b3, b4⟩ := q1
  have hM := hI.mid b4
  refine k_aload_n (i := 2) (v := kR ((201 : Nat) : Int)) (Nat.le_refl 2) rfl (by decide +kernel) ?_
  refine l_arg (j := 1) hc (by omega) (by omega) (by decide +kernel) (by decide +kernel) (by decide +kernel) (by decide +kernel) (by decide +kernel) ?_
  refine l_arg (j := 2) hc (by omega) (by omega) (by decide +kernel) (by decide +kernel) (by decide +kernel) (by decide +kernel) (by decide +kernel) ?_
  refine k_callV (ci := 11) (z := ((201 : Nat) : Int)) (as := [kI (scV G (i + 1)), kI (scV G (i + 2))]) (st := [kI r1]) ct_X11_diary mmX11_diary vvX11_diary lkL_165 ⟨by decide, by decide⟩ rfl (atO_k la_201 (by omega) (by decide)) ⟨TX11, 52, rfl⟩ ⟨by omega, by omega⟩ (Nat.le_of_ble_eq_true rfl) (by decide +kernel) (nr_mk L1 (And.intro (And.intro rfl (And.intro hM.1 (And.intro (rv 1 (by omega) (by omega)) ((rv 2 (by omega) (by omega)))))) (fun m2 r2 q2 L2 => ?_)))
  show VL G 1521 [kI r2, kI r1] i m2
  have hV := Inv.chg (c := c) (μ := μ) (c' := c) (by rw [hM.2]) (b1 c hI.1) b2 b3 q2 (nc_chg (fun v h => h) hI.2.1)
  rw [← hV.2]
  refine k_icmp_same (off := 230) (tgt := 1751) (by decide) (by decide +kernel) ?_
  exact nx m2 (hV.1.le (by omega) (by omega)) L2
set_option maxRecDepth 20000 in
/-- forget -/
theorem lc_36 {G : Cxt} {c i : Int} {μ : Mem} (hc : ScOK G) (hI : Inv c μ) (c0 : 0 ≤ c) (hk : c ≤ 999) (hL : Lk μ) (h0 : 0 ≤ i) (h1 : i + 6 ≤ (scL G : Int)) (nx : ∀ m : Mem, Inv (c + 1) m → Lk m → VL G 1751 [] i m) : VL G 1526 [] i μ := by
  have rv : ∀ j : Int, 0 ≤ j → j < 6 → r32 (scV G (i + j)) := fun j j0 j1 => hc.2 _ (by omega) (by omega)
  refine k_aload_n (i := 1) (v := kR ((0 : Nat) : Int)) (Nat.le_refl 2) rfl (by decide +kernel) ?_
  refine l_arg (j := 1) hc (by omega) (by omega) (by decide +kernel) (by decide +kernel) (by decide +kernel) (by decide +kernel) (by decide +kernel) ?_
  refine k_callV (ci := 10) (z := ((0 : Nat) : Int)) (as := [kI (scV G (i + 1))]) (st := []) ct_X10_forget mmX10_forget vvX10_forget lkL_166 ⟨by decide, by decide⟩ rfl (atO_k la_0 (by omega) (by decide)) ⟨TX10, 14, rfl⟩ ⟨by omega, by omega⟩ (Nat.le_of_ble_eq_true rfl) (by decide +kernel) (nr_mk hL (And.intro (And.intro rfl (And.intro ⟨c, hI.1⟩ ((rv 1 (by omega) (by omega))))) (fun m1 r1 q1 L1 => ?_)))
  show VL G 1535 [kI r1] i m1
  obtain ⟨b1, b2, b3, b4⟩ := q1
  have hM := hI.mid b4
  refine k_aload_n (i := 2) (v := kR ((201 : Nat) : Int)) (Nat.le_refl 2) rfl (by decide +kernel) ?_
  refine l_arg (j := 1) hc (by omega) (by omega) (by decide +kernel) (by decide +kernel) (by decide +kernel) (by decide +kernel) (by decide +kernel) ?_
  refine k_callV (ci := 11) (z := ((201 : Nat) : Int)) (as := [kI (scV G (i + 1))]) (st := [kI r1]) ct_X11_forget mmX11_forget vvX11_forget lkL_169 ⟨by decide, by decide⟩ rfl (atO_k la_201 (by omega) (by decide)) ⟨TX11, 52, rfl⟩ ⟨by omega, by omega⟩ (Nat.le_of_ble_eq_true rfl) (by decide +kernel) (nr_mk L1 (And.intro (And.intro rfl (And.intro hM.1 ((rv 1 (by omega) (by omega))))) (fun m2 r2 q2 L2 => ?_)))
  show VL G 1544 [kI r2, kI r1] i m2
  have hV := Inv.chg (c := c) (μ := μ) (c' := c) (by rw [hM.2]) (b1 c hI.1) b2 b3 q2 (nc_chg (fun v h => h) hI.2.1)
  rw [← hV.2]
  refine k_icmp_same (off := 207) (tgt := 1751) (by decide) (by decide +kernel) ?_
  exact nx m2 (hV.1.le (by omega) (by omega)) L2
set_option maxRecDepth 20000 in
/-- likely -/
theorem lc_37 {G : Cxt} {c i : Int} {μ : Mem} (hc : ScOK G) (hI : Inv c μ) (c0 : 0 ≤ c) (hk : c ≤ 999) (hL : Lk μ) (h0 : 0 ≤ i) (h1 : i + 6 ≤ (scL G : Int)) (nx : ∀ m : Mem, Inv (c + 1) m → Lk m → VL G 1751 [] i m) : VL G 1549 [] i μ := by
  have rv : ∀ j : Int, 0 ≤ j → j < 6 → r32 (scV G (i + j)) := fun j j0 j1 => hc.2 _ (by omega) (by omega)
  refine k_aload_n (i := 1) (v := kR ((0 : Nat) : Int)) (Nat.le_refl 2) rfl (by decide +kernel) ?_
  refine l_arg (j := 1) hc (by omega) (by omega) (by decide +kernel) (by decide +kernel) (by decide +kernel) (by decide +kernel) (by decide +kernel) ?_
  refine l_arg (j := 2) hc (by omega) (by omega) (by decide +kernel) (by decide +kernel) (by decide +kernel) (by decide +kernel) (by decide +kernel) ?_
  refine l_arg (j := 3) hc (by omega) (by omega) (by decide +kernel) (by decide +kernel) (by decide +kernel) (by decide +kernel) (by decide +kernel) ?_
  refine k_callV (ci := 10) (z := ((0 : Nat) : Int)) (as := [kI (scV G (i + 1)), kI (scV G (i + 2)), kI (scV G (i + 3))]) (st := []) ct_X10_likely mmX10_likely vvX10_likely lkL_170 ⟨by decide, by decide⟩ rfl (atO_k la_0 (by omega) (by decide)) ⟨TX10, 14, rfl⟩ ⟨by omega, by omega⟩ (Nat.le_of_ble_eq_true rfl) (by decide +kernel) (nr_mk hL (And.intro (And.intro rfl (And.intro ⟨c, hI.1⟩ (And.intro (rv 1 (by omega) (by omega)) (And.intro (rv 2 (by omega) (by omega)) ((rv 3 (by omega) (by omega))))))) (fun m1 r1 q1 L1 => ?_)))
  show VL G 1568 [kL r1] i m1
  obtain ⟨b1, b2⟩ := q1
  have hM := hI.mid (fun z hz => b1.2 z (Or.inr hz))
  refine k_aload_n (i := 2) (v := kR ((201 : Nat) : Int)) (Nat.le_refl 2) rfl (by decide +kernel) ?_
  refine l_arg (j := 1) hc (by omega) (by omega) (by decide +kernel) (by decide +kernel) (by decide +kernel) (by decide +kernel) (by decide +kernel) ?_
  refine l_arg (j := 2) hc (by omega) (by omega) (by decide +kernel) (by decide +kernel) (by decide +kernel) (by decide +kernel) (by decide +kernel) ?_
  refine l_arg (j := 3) hc (by omega) (by omega) (by decide +kernel) (by decide +kernel) (by decide +kernel) (by decide +kernel) (by decide +kernel) ?_
  refine k_callV (ci := 11) (z := ((201 : Nat) : Int)) (as := [kI (scV G (i + 1)), kI (scV G (i + 2)), kI (scV G (i + 3))]) (st := [kL r1]) ct_X11_likely mmX11_likely vvX11_likely lkL_173 ⟨by decide, by decide⟩ rfl (atO_k la_201 (by omega) (by decide)) ⟨TX11, 52, rfl⟩ ⟨by omega, by omega⟩ (Nat.le_of_ble_eq_true rfl) (by decide +kernel) (nr_mk L1 (And.intro (And.intro rfl (And.intro hM.1 (And.intro (rv 1 (by omega) (by omega)) (And.intro (rv 2 (by omega) (by omega)) ((rv 3 (by omega) (by omega))))))) (fun m2 r2 q2 L2 => ?_)))
  show VL G 1587 [kL r2, kL r1] i m2
  obtain ⟨d1, d2⟩ := q2
  have e : r2 = r1 := by rw [b2, d2, hM.2]; rfl
  rw [e]
  refine k_lcmp_same (by decide +kernel) ?_
  refine k_if_eq (off := 163) (tgt := 1751) (rr32 (by omega)) (by decide) (by decide +kernel) (fun _ => ?_) (fun q => absurd rfl q)
  exact nx m2 ((hI.ask b1 d1).le (by omega) (by omega)) L2
set_option maxRecDepth 20000 in
/-- next -/
theorem lc_38 {G : Cxt} {c i : Int} {μ : Mem} (hc : ScOK G) (hI : Inv c μ) (c0 : 0 ≤ c) (hk : c ≤ 999) (hL : Lk μ) (h0 : 0 ≤ i) (h1 : i + 6 ≤ (scL G : Int)) (nx : ∀ m : Mem, Inv (c + 1) m → Lk m → VL G 1751 [] i m) : VL G 1593 [] i μ := by
  have rv : ∀ j : Int, 0 ≤ j → j < 6 → r32 (scV G (i + j)) := fun j j0 j1 => hc.2 _ (by omega) (by omega)
  refine k_aload_n (i := 1) (v := kR ((0 : Nat) : Int)) (Nat.le_refl 2) rfl (by decide +kernel) ?_
  refine l_arg (j := 1) hc (by omega) (by omega) (by decide +kernel) (by decide +kernel) (by decide +kernel) (by decide +kernel) (by decide +kernel) ?_
  refine k_callV (ci := 10) (z := ((0 : Nat) : Int)) (as := [kI (scV G (i + 1))]) (st := []) ct_X10_next mmX10_next vvX10_next lkL_174 ⟨by decide, by decide⟩ rfl (atO_k la_0 (by omega) (by decide)) ⟨TX10, 14, rfl⟩ ⟨by omega, by omega⟩ (Nat.le_of_ble_eq_true rfl) (by decide +kernel) (nr_mk hL (And.intro (And.intro rfl (And.intro ⟨c, hI.1⟩ ((rv 1 (by omega) (by omega))))) (fun m1 r1 q1 L1 => ?_)))
  show VL G 1602 [kI r1] i m1
  obtain ⟨b1, b2⟩ := q1
  have hM := hI.mid (fun z hz => b1.2 z (Or.inr hz))
  refine k_aload_n (i := 2) (v := kR ((201 : Nat) : Int)) (Nat.le_refl 2) rfl (by decide +kernel) ?_
  refine l_arg (j := 1) hc (by omega) (by omega) (by decide +kernel) (by decide +kernel) (by decide +kernel) (by decide +kernel) (by decide +kernel) ?_
  refine k_callV (ci := 11) (z := ((201 : Nat) : Int)) (as := [kI (scV G (i + 1))]) (st := [kI r1]) ct_X11_next mmX11_next vvX11_next lkL_177 ⟨by decide, by decide⟩ rfl (atO_k la_201 (by omega) (by decide)) ⟨TX11, 52, rfl⟩ ⟨by omega, by omega⟩ (Nat.le_of_ble_eq_true rfl) (by decide +kernel) (nr_mk L1 (And.intro (And.intro rfl (And.intro hM.1 ((rv 1 (by omega) (by omega))))) (fun m2 r2 q2 L2 => ?_)))
  show VL G 1611 [kI r2, kI r1] i m2
  obtain ⟨d1, d2⟩ := q2
  have e : r2 = r1 := by rw [b2, d2, hM.2]; rfl
  rw [e]
  refine k_icmp_same (off := 140) (tgt := 1751) (by decide) (by decide +kernel) ?_
  exact nx m2 ((hI.ask b1 d1).le (by omega) (by omega)) L2
set_option maxRecDepth 20000 in
/-- run -/
theorem lc_39 {G : Cxt} {c i : Int} {μ : Mem} (hc : ScOK G) (hI : Inv c μ) (c0 : 0 ≤ c) (hk : c ≤ 999) (hL : Lk μ) (h0 : 0 ≤ i) (h1 : i + 6 ≤ (scL G : Int)) (nx : ∀ m : Mem, Inv (c + 1) m → Lk m → VL G 1751 [] i m) : VL G 1616 [] i μ := by
  have rv : ∀ j : Int, 0 ≤ j → j < 6 → r32 (scV G (i + j)) := fun j j0 j1 => hc.2 _ (by omega) (by omega)
  refine k_aload_n (i := 1) (v := kR ((0 : Nat) : Int)) (Nat.le_refl 2) rfl (by decide +kernel) ?_
  refine l_arg (j := 1) hc (by omega) (by omega) (by decide +kernel) (by decide +kernel) (by decide +kernel) (by decide +kernel) (by decide +kernel) ?_
  refine l_arg (j := 2) hc (by omega) (by omega) (by decide +kernel) (by decide +kernel) (by decide +kernel) (by decide +kernel) (by decide +kernel) ?_
  refine l_arg (j := 3) hc (by omega) (by omega) (by decide +kernel) (by decide +kernel) (by decide +kernel) (by decide +kernel) (by decide +kernel) ?_
  refine k_callV (ci := 10) (z := ((0 : Nat) : Int)) (as := [kI (scV G (i + 1)), kI (scV G (i + 2)), kI (scV G (i + 3))]) (st := []) ct_X10_run mmX10_run vvX10_run lkL_178 ⟨by decide, by decide⟩ rfl (atO_k la_0 (by omega) (by decide)) ⟨TX10, 14, rfl⟩ ⟨by omega, by omega⟩ (Nat.le_of_ble_eq_true rfl) (by decide +kernel) (nr_mk hL (And.intro (And.intro rfl (And.intro ⟨c, hk, hI.1⟩ (And.intro (Pos_of (SOk_of hI.1 hI.2.1)) (And.intro (rv 1 (by omega) (by omega)) (And.intro (rv 2 (by omega) (by omega)) ((rv 3 (by omega) (by omega)))))))) (fun m1 r1 q1 L1 => ?_)))
  show VL G 1635 [kI r1] i m1
  obtain ⟨b1, b2, b3, b4⟩ := q1
  have hM := hI.mid b4
  refine k_aload_n (i := 2) (v := kR ((201 : Nat) : Int)) (Nat.le_refl 2) rfl (by decide +kernel) ?_
  refine l_arg (j := 1) hc (by omega) (by omega) (by decide +kernel) (by decide +kernel) (by decide +kernel) (by decide +kernel) (by decide +kernel) ?_
  refine l_arg (j := 2) hc (by omega) (by omega) (by decide +kernel) (by decide +kernel) (by decide +kernel) (by decide +kernel) (by decide +kernel) ?_
  refine l_arg (j := 3) hc (by omega) (by omega) (by decide +kernel) (by decide +kernel) (by decide +kernel) (by decide +kernel) (by decide +kernel) ?_
  refine k_callV (ci := 11) (z := ((201 : Nat) : Int)) (as := [kI (scV G (i + 1)), kI (scV G (i + 2)), kI (scV G (i + 3))]) (st := [kI r1]) ct_X11_run mmX11_run vvX11_run lkL_181 ⟨by decide, by decide⟩ rfl (atO_k la_201 (by omega) (by decide)) ⟨TX11, 52, rfl⟩ ⟨by omega, by omega⟩ (Nat.le_of_ble_eq_true rfl) (by decide +kernel) (nr_mk L1 (And.intro (And.intro rfl (And.intro hM.1 (And.intro (rv 1 (by omega) (by omega)) (And.intro (rv 2 (by omega) (by omega)) ((rv 3 (by omega) (by omega))))))) (fun m2 r2 q2 L2 => ?_)))
  show VL G 1654 [kI r2, kI r1] i m2
  have hV := Inv.chg (c := c) (μ := μ) (c' := c + 1) (by rw [hM.2]) (b1 c hk hI.1) b2 b3 q2 (nc_run hI.2.1)
  rw [← hV.2]
  refine k_icmp_same (off := 97) (tgt := 1751) (by decide) (by decide +kernel) ?_
  exact nx m2 hV.1 L2
set_option maxRecDepth 20000 in
/-- ran -/
theorem lc_40 {G : Cxt} {c i : Int} {μ : Mem} (hc : ScOK G) (hI : Inv c μ) (c0 : 0 ≤ c) (hk : c ≤ 999) (hL : Lk μ) (h0 : 0 ≤ i) (h1 : i + 6 ≤ (scL G : Int)) (nx : ∀ m : Mem, Inv (c + 1) m → Lk m → VL G 1751 [] i m) : VL G 1659 [] i μ := by
  have rv : ∀ j : Int, 0 ≤ j → j < 6 → r32 (scV G (i + j)) := fun j j0 j1 => hc.2 _ (by omega) (by omega)
  refine k_aload_n (i := 1) (v := kR ((0 : Nat) : Int)) (Nat.le_refl 2) rfl (by decide +kernel) ?_
  refine l_arg (j := 1) hc (by omega) (by omega) (by decide +kernel) (by decide +kernel) (by decide +kernel) (by decide +kernel) (by decide +kernel) ?_
  refine k_callV (ci := 10) (z := ((0 : Nat) : Int)) (as := [kI (scV G (i + 1))]) (st := []) ct_X10_ran mmX10_ran vvX10_ran lkL_182 ⟨by decide, by decide⟩ rfl (atO_k la_0 (by omega) (by decide)) ⟨TX10, 14, rfl⟩ ⟨by omega, by omega⟩ (Nat.le_of_ble_eq_true rfl) (by decide +kernel) (nr_mk hL (And.intro (And.intro rfl (And.intro ⟨c, hI.1⟩ ((rv 1 (by omega) (by omega))))) (fun m1 r1 q1 L1 => ?_)))
  show VL G 1668 [kI r1] i m1
  obtain ⟨b1, b2⟩ := q1
  have hM := hI.mid (fun z hz => b1.2 z (Or.inr hz))
  refine k_aload_n (i := 2) (v := kR ((201 : Nat) : Int)) (Nat.le_refl 2) rfl (by decide +kernel) ?_
  refine l_arg (j := 1) hc (by omega) (by omega) (by decide +kernel) (by decide +kernel) (by decide +kernel) (by decide +kernel) (by decide +kernel) ?_
  refine k_callV (ci := 11) (z := ((201 : Nat) : Int)) (as := [kI (scV G (i + 1))]) (st := [kI r1]) ct_X11_ran mmX11_ran vvX11_ran lkL_185 ⟨by decide, by decide⟩ rfl (atO_k la_201 (by omega) (by decide)) ⟨TX11, 52, rfl⟩ ⟨by omega, by omega⟩ (Nat.le_of_ble_eq_true rfl) (by decide +kernel) (nr_mk L1 (And.intro (And.intro rfl (And.intro hM.1 ((rv 1 (by omega) (by omega))))) (fun m2 r2 q2 L2 => ?_)))
  show VL G 1677 [kI r2, kI r1] i m2
  obtain ⟨d1, d2⟩ := q2
  have e : r2 = r1 := by rw [b2, d2, hM.2]; rfl
  rw [e]
  refine k_icmp_same (off := 74) (tgt := 1751) (by decide) (by decide +kernel) ?_
  exact nx m2 ((hI.ask b1 d1).le (by omega) (by omega)) L2
set_option maxRecDepth 20000 in
/-- count -/
theorem lc_41 {G : Cxt} {c i : Int} {μ : Mem} (hc : ScOK G) (hI : Inv c μ) (c0 : 0 ≤ c) (hk : c ≤ 999) (hL : Lk μ) (h0 : 0 ≤ i) (h1 : i + 6 ≤ (scL G : Int)) (nx : ∀ m : Mem, Inv (c + 1) m → Lk m → VL G 1751 [] i m) : VL G 1682 [] i μ := by
  have rv : ∀ j : Int, 0 ≤ j → j < 6 → r32 (scV G (i + j)) := fun j j0 j1 => hc.2 _ (by omega) (by omega)
  refine k_aload_n (i := 1) (v := kR ((0 : Nat) : Int)) (Nat.le_refl 2) rfl (by decide +kernel) ?_
  refine l_arg (j := 1) hc (by omega) (by omega) (by decide +kernel) (by decide +kernel) (by decide +kernel) (by decide +kernel) (by decide +kernel) ?_
  refine k_callV (ci := 10) (z := ((0 : Nat) : Int)) (as := [kI (scV G (i + 1))]) (st := []) ct_X10_count mmX10_count vvX10_count lkL_186 ⟨by decide, by decide⟩ rfl (atO_k la_0 (by omega) (by decide)) ⟨TX10, 14, rfl⟩ ⟨by omega, by omega⟩ (Nat.le_of_ble_eq_true rfl) (by decide +kernel) (nr_mk hL (And.intro (And.intro rfl (And.intro ⟨c, hI.1⟩ ((rv 1 (by omega) (by omega))))) (fun m1 r1 q1 L1 => ?_)))
  show VL G 1691 [kI r1] i m1
  obtain ⟨b1, b2⟩ := q1
  have hM := hI.mid (fun z hz => b1.2 z (Or.inr hz))
  refine k_aload_n (i := 2) (v := kR ((201 : Nat) : Int)) (Nat.le_refl 2) rfl (by decide +kernel) ?_
  refine l_arg (j := 1) hc (by omega) (by omega) (by decide +kernel) (by decide +kernel) (by decide +kernel) (by decide +kernel) (by decide +kernel) ?_
  refine k_callV (ci := 11) (z := ((201 : Nat) : Int)) (as := [kI (scV G (i + 1))]) (st := [kI r1]) ct_X11_count mmX11_count vvX11_count lkL_189 ⟨by decide, by decide⟩ rfl (atO_k la_201 (by omega) (by decide)) ⟨TX11, 52, rfl⟩ ⟨by omega, by omega⟩ (Nat.le_of_ble_eq_true rfl) (by decide +kernel) (nr_mk L1 (And.intro (And.intro rfl (And.intro hM.1 ((rv 1 (by omega) (by omega))))) (fun m2 r2 q2 L2 => ?_)))
  show VL G 1700 [kI r2, kI r1] i m2
  obtain ⟨d1, d2⟩ := q2
  have e : r2 = r1 := by rw [b2, d2, hM.2]; rfl
  rw [e]
  refine k_icmp_same (off := 51) (tgt := 1751) (by decide) (by decide +kernel) ?_
  exact nx m2 ((hI.ask b1 d1).le (by omega) (by omega)) L2
set_option maxRecDepth 20000 in
/-- image -/
theorem lc_42 {G : Cxt} {c i : Int} {μ : Mem} (hc : ScOK G) (hI : Inv c μ) (c0 : 0 ≤ c) (hk : c ≤ 999) (hL : Lk μ) (h0 : 0 ≤ i) (h1 : i + 6 ≤ (scL G : Int)) (nx : ∀ m : Mem, Inv (c + 1) m → Lk m → VL G 1751 [] i m) : VL G 1705 [] i μ := by
  have rv : ∀ j : Int, 0 ≤ j → j < 6 → r32 (scV G (i + j)) := fun j j0 j1 => hc.2 _ (by omega) (by omega)
  refine k_aload_n (i := 1) (v := kR ((0 : Nat) : Int)) (Nat.le_refl 2) rfl (by decide +kernel) ?_
  refine l_arg (j := 1) hc (by omega) (by omega) (by decide +kernel) (by decide +kernel) (by decide +kernel) (by decide +kernel) (by decide +kernel) ?_
  refine k_callV (ci := 10) (z := ((0 : Nat) : Int)) (as := [kI (scV G (i + 1))]) (st := []) ct_X10_image mmX10_image vvX10_image lkL_190 ⟨by decide, by decide⟩ rfl (atO_k la_0 (by omega) (by decide)) ⟨TX10, 14, rfl⟩ ⟨by omega, by omega⟩ (Nat.le_of_ble_eq_true rfl) (by decide +kernel) (nr_mk hL (And.intro (And.intro rfl (And.intro ⟨c, hI.1⟩ ((rv 1 (by omega) (by omega))))) (fun m1 r1 q1 L1 => ?_)))
  show VL G 1714 [kI r1] i m1
  obtain ⟨b1, b2, b3, b4⟩ := q1
  have hM := hI.mid b4
  refine k_aload_n (i := 2) (v := kR ((201 : Nat) : Int)) (Nat.le_refl 2) rfl (by decide +kernel) ?_
  refine l_arg (j := 1) hc (by omega) (by omega) (by decide +kernel) (by decide +kernel) (by decide +kernel) (by decide +kernel) (by decide +kernel) ?_
  refine k_callV (ci := 11) (z := ((201 : Nat) : Int)) (as := [kI (scV G (i + 1))]) (st := [kI r1]) ct_X11_image mmX11_image vvX11_image lkL_193 ⟨by decide, by decide⟩ rfl (atO_k la_201 (by omega) (by decide)) ⟨TX11, 52, rfl⟩ ⟨by omega, by omega⟩ (Nat.le_of_ble_eq_true rfl) (by decide +kernel) (nr_mk L1 (And.intro (And.intro rfl (And.intro hM.1 ((rv 1 (by omega) (by omega))))) (fun m2 r2 q2 L2 => ?_)))
  show VL G 1723 [kI r2, kI r1] i m2
  have hV := Inv.chg (c := c) (μ := μ) (c' := c) (by rw [hM.2]) (b1 c hI.1) b2 b3 q2 (nc_image hI.2.1)
  rw [← hV.2]
  refine k_icmp_same (off := 28) (tgt := 1751) (by decide) (by decide +kernel) ?_
  exact nx m2 (hV.1.le (by omega) (by omega)) L2
set_option maxRecDepth 20000 in
/-- again -/
theorem lc_43 {G : Cxt} {c i : Int} {μ : Mem} (hc : ScOK G) (hI : Inv c μ) (c0 : 0 ≤ c) (hk : c ≤ 999) (hL : Lk μ) (h0 : 0 ≤ i) (h1 : i + 6 ≤ (scL G : Int)) (nx : ∀ m : Mem, Inv (c + 1) m → Lk m → VL G 1751 [] i m) : VL G 1728 [] i μ := by
  have rv : ∀ j : Int, 0 ≤ j → j < 6 → r32 (scV G (i + j)) := fun j j0 j1 => hc.2 _ (by omega) (by omega)
  refine k_aload_n (i := 1) (v := kR ((0 : Nat) : Int)) (Nat.le_refl 2) rfl (by decide +kernel) ?_
  refine l_arg (j := 1) hc (by omega) (by omega) (by decide +kernel) (by decide +kernel) (by decide +kernel) (by decide +kernel) (by decide +kernel) ?_
  refine k_callV (ci := 10) (z := ((0 : Nat) : Int)) (as := [kI (scV G (i + 1))]) (st := []) ct_X10_again mmX10_again vvX10_again lkL_194 ⟨by decide, by decide⟩ rfl (atO_k la_0 (by omega) (by decide)) ⟨TX10, 14, rfl⟩ ⟨by omega, by omega⟩ (Nat.le_of_ble_eq_true rfl) (by decide +kernel) (nr_mk hL (And.intro (And.intro rfl (And.intro ⟨c, hI.1⟩ ((rv 1 (by omega) (by omega))))) (fun m1 r1 q1 L1 => ?_)))
  show VL G 1737 [kI r1] i m1
  obtain ⟨b1, b2, b3, b4⟩ := q1
  have hM := hI.mid b4
  refine k_aload_n (i := 2) (v := kR ((201 : Nat) : Int)) (Nat.le_refl 2) rfl (by decide +kernel) ?_
  refine l_arg (j := 1) hc (by omega) (by omega) (by decide +kernel) (by decide +kernel) (by decide +kernel) (by decide +kernel) (by decide +kernel) ?_
  refine k_callV (ci := 11) (z := ((201 : Nat) : Int)) (as := [kI (scV G (i + 1))]) (st := [kI r1]) ct_X11_again mmX11_again vvX11_again lkL_197 ⟨by decide, by decide⟩ rfl (atO_k la_201 (by omega) (by decide)) ⟨TX11, 52, rfl⟩ ⟨by omega, by omega⟩ (Nat.le_of_ble_eq_true rfl) (by decide +kernel) (nr_mk L1 (And.intro (And.intro rfl (And.intro hM.1 ((rv 1 (by omega) (by omega))))) (fun m2 r2 q2 L2 => ?_)))
  show VL G 1746 [kI r2, kI r1] i m2
  have hV := Inv.chg (c := c) (μ := μ) (c' := c) (by rw [hM.2]) (b1 c hI.1) b2 b3 q2 (nc_again hI.2.1)
  rw [← hV.2]
  refine k_icmp_same (off := 5) (tgt := 1751) (by decide) (by decide +kernel) ?_
  exact nx m2 (hV.1.le (by omega) (by omega)) L2
