set_option maxRecDepth 20000 in
theorem law_loop {G : Cxt} (hc : ScOK G) : ∀ (d : Nat) (i c : Int) (μ : Mem), 0 ≤ i → i ≤ (scL G : Int) → 0 ≤ c → 6 * c ≤ i → (scL G : Int) ≤ i + d → Inv c μ → Lk μ → VL G 18 [] i μ := by
  have hs := hc.1
  intro d
  induction d with
  | zero =>
    intro i c μ h0 h1 c0 c1 hd hI hL
    refine k_iload_n (i := 3) (z := i) rfl (by decide +kernel) ?_
    refine k_aload_n (i := 0) (v := kS 8) (show 2 ≤ 3 by omega) rfl (by decide +kernel) ?_
    refine k_slen (by decide +kernel) ?_
    refine k_bipush (c := 6) (by omega) (by decide +kernel) ?_
    refine k_isub (by decide +kernel) ?_
    refine k_icmp_gt (off := 1733) (tgt := 1757) (rr32 (by omega)) (rr32 (by omega)) (by decide) (by decide +kernel) (fun _ => ?_) (fun q => absurd (show (scL G : Int) - 6 < i by omega) q)
    refine k_iconst (c := 1) (by decide +kernel) ?_
    exact k_ireturn (ty := .boolean) rfl (Or.inr ⟨rfl, by omega, by omega⟩) rfl rfl (by decide +kernel) rfl
  | succ d ih =>
    intro i c μ h0 h1 c0 c1 hd hI hL
    refine k_iload_n (i := 3) (z := i) rfl (by decide +kernel) ?_
    refine k_aload_n (i := 0) (v := kS 8) (show 2 ≤ 3 by omega) rfl (by decide +kernel) ?_
    refine k_slen (by decide +kernel) ?_
    refine k_bipush (c := 6) (by omega) (by decide +kernel) ?_
    refine k_isub (by decide +kernel) ?_
    refine k_icmp_gt (off := 1733) (tgt := 1757) (rr32 (by omega)) (rr32 (by omega)) (by decide) (by decide +kernel) (fun _ => ?_) (fun q => ?_)
    · refine k_iconst (c := 1) (by decide +kernel) ?_
      exact k_ireturn (ty := .boolean) rfl (Or.inr ⟨rfl, by omega, by omega⟩) rfl rfl (by decide +kernel) rfl
    · have h6 : i + 6 ≤ (scL G : Int) := by
        have q : ¬ (scL G : Int) - 6 < i := q
        omega
      have hk : c ≤ 999 := by omega
      have nx : ∀ m : Mem, Inv (c + 1) m → Lk m → VL G 1751 [] i m := fun m hm lm => by
        refine k_iinc (i := 3) (c := 6) (z := i) rfl (by decide) (by decide +kernel) ?_
        refine k_goto (off := (-1736)) (tgt := 18) (by decide) (by decide +kernel) ?_
        exact ih (i + 6) (c + 1) m (by omega) (by omega) (by omega) (by omega) (by omega) hm lm
      refine k_aload_n (i := 0) (v := kS 8) (show 2 ≤ 3 by omega) rfl (by decide +kernel) ?_
      refine k_iload_n (i := 3) (z := i) rfl (by decide +kernel) ?_
      refine k_sld h0 (by omega) (rr32 (by omega)) (by decide +kernel) ?_
      refine k_bipush (c := 63) (by omega) (by decide +kernel) ?_
      refine k_iand (by decide +kernel) ?_
      refine k_tswitch (dflt := 1718) (lo' := 0) (hi := 43) (offs := #[191, 254, 277, 300, 323, 356, 399, 442, 465, 508, 551, 594, 627, 660, 693, 752, 795, 828, 862, 906, 929, 973, 996, 1029, 1062, 1096, 1130, 1153, 1196, 1230, 1273, 1306, 1340, 1384, 1427, 1460, 1493, 1516, 1560, 1583, 1626, 1649, 1672, 1695]) (len := 191) (n_rng _) rfl (by decide) (by decide) (by decide +kernel) (fun _ => nx μ (hI.le (by omega) (by omega)) hL) (fun j o ho _ => ?_)
      match j, ho with
      | 0, ho =>
        obtain rfl := Option.some.inj (show some (191 : Int) = some o from ho)
        exact lc_0 hc hI c0 hk hL h0 h6 nx
      | 1, ho =>
        obtain rfl := Option.some.inj (show some (254 : Int) = some o from ho)
        exact lc_1 hc hI c0 hk hL h0 h6 nx
      | 2, ho =>
        obtain rfl := Option.some.inj (show some (277 : Int) = some o from ho)
        exact lc_2 hc hI c0 hk hL h0 h6 nx
      | 3, ho =>
        obtain rfl := Option.some.inj (show some (300 : Int) = some o from ho)
        exact lc_3 hc hI c0 hk hL h0 h6 nx
      | 4, ho =>
        obtain rfl := Option.some.inj (show some (323 : Int) = some o from ho)
        exact lc_4 hc hI c0 hk hL h0 h6 nx
      | 5, ho =>
        obtain rfl := Option.some.inj (show some (356 : Int) = some o from ho)
        exact lc_5 hc hI c0 hk hL h0 h6 nx
      | 6, ho =>
        obtain rfl := Option.some.inj (show some (399 : Int) = some o from ho)
        exact lc_6 hc hI c0 hk hL h0 h6 nx
      | 7, ho =>
        obtain rfl := Option.some.inj (show some (442 : Int) = some o from ho)
        exact lc_7 hc hI c0 hk hL h0 h6 nx
      | 8, ho =>
        obtain rfl := Option.some.inj (show some (465 : Int) = some o from ho)
        exact lc_8 hc hI c0 hk hL h0 h6 nx
      | 9, ho =>
        obtain rfl := Option.some.inj (show some (508 : Int) = some o from ho)
        exact lc_9 hc hI c0 hk hL h0 h6 nx
      | 10, ho =>
        obtain rfl := Option.some.inj (show some (551 : Int) = some o from ho)
        exact lc_10 hc hI c0 hk hL h0 h6 nx
      | 11, ho =>
        obtain rfl := Option.some.inj (show some (594 : Int) = some o from ho)
        exact lc_11 hc hI c0 hk hL h0 h6 nx
      | 12, ho =>
        obtain rfl := Option.some.inj (show some (627 : Int) = some o from ho)
        exact lc_12 hc hI c0 hk hL h0 h6 nx
      | 13, ho =>
        obtain rfl := Option.some.inj (show some (660 : Int) = some o from ho)
        exact lc_13 hc hI c0 hk hL h0 h6 nx
      | 14, ho =>
        obtain rfl := Option.some.inj (show some (693 : Int) = some o from ho)
        exact lc_14 hc hI c0 hk hL h0 h6 nx
      | 15, ho =>
        obtain rfl := Option.some.inj (show some (752 : Int) = some o from ho)
        exact lc_15 hc hI c0 hk hL h0 h6 nx
      | 16, ho =>
        obtain rfl := Option.some.inj (show some (795 : Int) = some o from ho)
        exact lc_16 hc hI c0 hk hL h0 h6 nx
      | 17, ho =>
        obtain rfl := Option.some.inj (show some (828 : Int) = some o from ho)
        exact lc_17 hc hI c0 hk hL h0 h6 nx
      | 18, ho =>
        obtain rfl := Option.some.inj (show some (862 : Int) = some o from ho)
        exact lc_18 hc hI c0 hk hL h0 h6 nx
      | 19, ho =>
        obtain rfl := Option.some.inj (show some (906 : Int) = some o from ho)
        exact lc_19 hc hI c0 hk hL h0 h6 nx
      | 20, ho =>
        obtain rfl := Option.some.inj (show some (929 : Int) = some o from ho)
        exact lc_20 hc hI c0 hk hL h0 h6 nx
      | 21, ho =>
        obtain rfl := Option.some.inj (show some (973 : Int) = some o from ho)
        exact lc_21 hc hI c0 hk hL h0 h6 nx
      | 22, ho =>
        obtain rfl := Option.some.inj (show some (996 : Int) = some o from ho)
        exact lc_22 hc hI c0 hk hL h0 h6 nx
      | 23, ho =>
        obtain rfl := Option.some.inj (show some (1029 : Int) = some o from ho)
        exact lc_23 hc hI c0 hk hL h0 h6 nx
      | 24, ho =>
        obtain rfl := Option.some.inj (show some (1062 : Int) = some o from ho)
        exact lc_24 hc hI c0 hk hL h0 h6 nx
      | 25, ho =>
        obtain rfl := Option.some.inj (show some (1096 : Int) = some o from ho)
        exact lc_25 hc hI c0 hk hL h0 h6 nx
      | 26, ho =>
        obtain rfl := Option.some.inj (show some (1130 : Int) = some o from ho)
        exact lc_26 hc hI c0 hk hL h0 h6 nx
      | 27, ho =>
        obtain rfl := Option.some.inj (show some (1153 : Int) = some o from ho)
        exact lc_27 hc hI c0 hk hL h0 h6 nx
      | 28, ho =>
        obtain rfl := Option.some.inj (show some (1196 : Int) = some o from ho)
        exact lc_28 hc hI c0 hk hL h0 h6 nx
      | 29, ho =>
        obtain rfl := Option.some.inj (show some (1230 : Int) = some o from ho)
        exact lc_29 hc hI c0 hk hL h0 h6 nx
      | 30, ho =>
        obtain rfl := Option.some.inj (show some (1273 : Int) = some o from ho)
        exact lc_30 hc hI c0 hk hL h0 h6 nx
      | 31, ho =>
        obtain rfl := Option.some.inj (show some (1306 : Int) = some o from ho)
        exact lc_31 hc hI c0 hk hL h0 h6 nx
      | 32, ho =>
        obtain rfl := Option.some.inj (show some (1340 : Int) = some o from ho)
        exact lc_32 hc hI c0 hk hL h0 h6 nx
      | 33, ho =>
        obtain rfl := Option.some.inj (show some (1384 : Int) = some o from ho)
        exact lc_33 hc hI c0 hk hL h0 h6 nx
      | 34, ho =>
        obtain rfl := Option.some.inj (show some (1427 : Int) = some o from ho)
        exact lc_34 hc hI c0 hk hL h0 h6 nx
      | 35, ho =>
        obtain rfl := Option.some.inj (show some (1460 : Int) = some o from ho)
        exact lc_35 hc hI c0 hk hL h0 h6 nx
      | 36, ho =>
        obtain rfl := Option.some.inj (show some (1493 : Int) = some o from ho)
        exact lc_36 hc hI c0 hk hL h0 h6 nx
      | 37, ho =>
        obtain rfl := Option.some.inj (show some (1516 : Int) = some o from ho)
        exact lc_37 hc hI c0 hk hL h0 h6 nx
      | 38, ho =>
        obtain rfl := Option.some.inj (show some (1560 : Int) = some o from ho)
        exact lc_38 hc hI c0 hk hL h0 h6 nx
      | 39, ho =>
        obtain rfl := Option.some.inj (show some (1583 : Int) = some o from ho)
        exact lc_39 hc hI c0 hk hL h0 h6 nx
      | 40, ho =>
        obtain rfl := Option.some.inj (show some (1626 : Int) = some o from ho)
        exact lc_40 hc hI c0 hk hL h0 h6 nx
      | 41, ho =>
        obtain rfl := Option.some.inj (show some (1649 : Int) = some o from ho)
        exact lc_41 hc hI c0 hk hL h0 h6 nx
      | 42, ho =>
        obtain rfl := Option.some.inj (show some (1672 : Int) = some o from ho)
        exact lc_42 hc hI c0 hk hL h0 h6 nx
      | 43, ho =>
        obtain rfl := Option.some.inj (show some (1695 : Int) = some o from ho)
        exact lc_43 hc hI c0 hk hL h0 h6 nx
      | n + 44, ho =>
        rw [List.getElem?_eq_none (show 44 ≤ n + 44 by omega)] at ho
        cases ho
set_option maxRecDepth 20000 in
theorem law_start {G : Cxt} (hc : ScOK G) (μ : Mem) : Vc mL RL 11 410 232 25624 G 0 QL 0 [(0, kS 8)] [] μ 0 0 := by
  refine k_new (idx := 7) (ci := 10) (N := 14) (nw_c (i := 17) (j := 18) (k := 1) (RX10, TX10, 14) rfl rfl (by decide +kernel) (by decide +kernel) (by decide +kernel)) la_0 (by omega) (by omega) (by decide +kernel) ?_
  refine k_dup (show (2 : Nat) ≠ 1 by decide) (by decide +kernel) ?_
  refine k_callI (as := []) (z := ((0 : Nat) : Int)) (st := [kR ((0 : Nat) : Int)]) ct_X10_init mmX10_init iiX10_init rfl rfl lkL_9 ⟨by decide, by decide⟩ rfl (by omega) ⟨by omega, by omega⟩ (Nat.le_of_ble_eq_true rfl) (by decide +kernel) (S_HB_mk rfl rfl rs_eq (fun m1 h1 => ?_))
  show Vc mL RL 11 410 232 25624 G 0 QL 7 [(0, kS 8)] [kR ((0 : Nat) : Int)] m1 201 16141
  refine k_astore_n (i := 1) (v := kR ((0 : Nat) : Int)) (Nat.le_refl 2) (by decide) (by decide +kernel) ?_
  refine k_new (idx := 10) (ci := 11) (N := 52) (nw_c (i := 1237) (j := 1238) (k := 12) (RX11, TX11, 52) rfl rfl (by decide +kernel) (by decide +kernel) (by decide +kernel)) la_201 (by omega) (by omega) (by decide +kernel) ?_
  refine k_dup (show (2 : Nat) ≠ 1 by decide) (by decide +kernel) ?_
  refine k_callI (as := []) (z := ((201 : Nat) : Int)) (st := [kR ((201 : Nat) : Int)]) ct_X11_init mmX11_init iiX11_init rfl rfl lkL_12 ⟨by decide, by decide⟩ rfl (by omega) ⟨by omega, by omega⟩ (Nat.le_of_ble_eq_true rfl) (by decide +kernel) (S_MD_mk 201 rfl (by decide) rfl rs_eq (fun m2 f2 h2 => ?_))
  show Vc mL RL 11 410 232 25624 G 0 QL 15 [(1, kR ((0 : Nat) : Int)), (0, kS 8)] [kR ((201 : Nat) : Int)] m2 232 25624
  refine k_astore_n (i := 2) (v := kR ((201 : Nat) : Int)) (Nat.le_refl 2) (by decide) (by decide +kernel) ?_
  refine k_iconst (c := 0) (by decide +kernel) ?_
  refine k_istore_n (i := 3) (by decide) (by decide +kernel) ?_
  have hb : HbK m2 := hb_loc (fun y y0 y1 => by rw [f2 y (by omega), rs_ne (by omega)]) h1
  exact law_loop hc (scL G) 0 0 m2 (by omega) (by omega) (by omega) (by omega) (by omega) (Inv_init hb h2) (Lk_init hb h2)
