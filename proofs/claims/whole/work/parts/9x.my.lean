/-! the law: its script, its calls of both sides -/
def mL : Mt := (yL_law, cL_law, 4, some .boolean)
def QL : Mem → Option AV → Prop := fun _ r => r = some (kI 1)
def ScOK (G : Cxt) : Prop := scL G ≤ 3072 ∧ ∀ j : Int, 0 ≤ j → j < (scL G : Int) → r32 (scV G j)
abbrev VL (G : Cxt) (pc : Nat) (st : List AV) (i : Int) (μ : Mem) : Prop := Vc mL RL 11 410 232 25624 G 0 QL pc [(3, kI i), (2, kR ((201 : Nat) : Int)), (1, kR ((0 : Nat) : Int)), (0, kS 8)] st μ 232 25624
section CL
variable {y : Mt} {own : String} {fr lo mc ms : Nat} {G : Cxt} {n0 : Nat} {Q : Mem → Option AV → Prop} {pc : Nat} {lc : List (Nat × AV)} {st : List AV} {μ : Mem} {n sl : Nat}
theorem k_sld {j : Int} (h0 : 0 ≤ j) (hj : j < (scL G : Int)) (hr : r32 j) (hd : decode y.2.1 pc = .ok (.iaload, 1)) (k : Vc y own fr lo mc ms G n0 Q (pc + 1) lc (kI (scV G j) :: st) μ n sl) : Vc y own fr lo mc ms G n0 Q pc lc (kI j :: kS 8 :: st) μ n sl := by
  intro p l e s m args below meth c C H locs ls h1 h2 h3 h4
  have kk := k p l e s m args below meth c C H locs ls h1 h2 h3 h4
  obtain ⟨hx, hb, hml, hown, hts, hret, hlk, hnm, hT0, hS0, hsz⟩ := C
  obtain ⟨cell, c1, c2, c3, c4, c5, c6, c7⟩ := va_T.kept hS0.2 h2.2.1
  have hin := n_in (N := scL G) hr h0 hj
  have hcl : (Int32.ofInt j).toNatClampNeg = j.toNat := n_clamp hr h0
  refine W.iald (v := .int (Int32.ofInt (scV G j))) hx hb c1 c2 c3 (fun h => hin (h.imp id (fun q => Nat.le_trans c4 q))) ?_ rfl rfl hd kk
  rw [hcl, c6 j.toNat (by omega)]
  show some (Value.int (Int32.ofInt (scV G ((j.toNat : Nat) : Int)))) = _
  rw [Int.toNat_of_nonneg h0]
theorem k_slen (hd : decode y.2.1 pc = .ok (.arraylength, 1)) (k : Vc y own fr lo mc ms G n0 Q (pc + 1) lc (kI (scL G) :: st) μ n sl) : Vc y own fr lo mc ms G n0 Q pc lc (kS 8 :: st) μ n sl := by
  intro p l e s m args below meth c C H locs ls h1 h2 h3 h4
  have kk := k p l e s m args below meth c C H locs ls h1 h2 h3 h4
  obtain ⟨hx, hb, hml, hown, hts, hret, hlk, hnm, hT0, hS0, hsz⟩ := C
  obtain ⟨cell, c1, c2, c3, c4, c5, c6, c7⟩ := va_T.kept hS0.2 h2.2.1
  exact W.alen hx hb c1 c2 (c5.trans (by rfl)) rfl rfl hd kk
theorem k_icmp_same {a : Int} {off : Int} {tgt : Nat} (ht : (pc : Int) + off = (tgt : Int)) (hd : decode y.2.1 pc = .ok (.if_icmp .eq off, 3)) (k : Vc y own fr lo mc ms G n0 Q tgt lc st μ n sl) : Vc y own fr lo mc ms G n0 Q pc lc (kI a :: kI a :: st) μ n sl := by
  intro p l e s m args below meth c C H locs ls h1 h2 h3 h4
  exact lv_icmp_eq C.1 C.2.1 hd ht (fun _ => k p l e s m args below meth c C H locs ls h1 h2 h3 h4) (fun q => absurd rfl q)
theorem n_lrng (x : Int64) : r64 x.toInt := by
  have h1 := Int64.le_toInt x
  have h2 := Int64.toInt_lt x
  unfold r64
  omega
theorem k_lcmp_same {a : Int} (hd : decode y.2.1 pc = .ok (.lcmp, 1)) (k : Vc y own fr lo mc ms G n0 Q (pc + 1) lc (kI 0 :: st) μ n sl) : Vc y own fr lo mc ms G n0 Q pc lc (kL a :: kL a :: st) μ n sl := by
  intro p l e s m args below meth c C H locs ls h1 h2 h3 h4
  have kk := k p l e s m args below meth c C H locs ls h1 h2 h3 h4
  refine W.lcmp (x := Int64.ofInt a) (y := Int64.ofInt a) C.1 C.2.1 hd ?_
  have e := n_lcmp (n_lrng (Int64.ofInt a)) (n_lrng (Int64.ofInt a))
  rw [n_lself, lcm_eq.mpr rfl] at e
  rw [e]
  exact kk
end CL
theorem l_arg {G : Cxt} {pc : Nat} {st : List AV} {i j : Int} {μ : Mem} (hc : ScOK G) (h0 : 0 ≤ i + j) (h1 : i + j < (scL G : Int)) (d0 : decode cL_law pc = .ok (.aload_n 0, 1)) (d1 : decode cL_law (pc + 1) = .ok (.iload_n 3, 1)) (d2 : decode cL_law (pc + 1 + 1) = .ok (.iconst j, 1)) (d3 : decode cL_law (pc + 1 + 1 + 1) = .ok (.iadd, 1)) (d4 : decode cL_law (pc + 1 + 1 + 1 + 1) = .ok (.iaload, 1)) (k : VL G (pc + 5) (kI (scV G (i + j)) :: st) i μ) : VL G pc st i μ := by
  refine k_aload_n (i := 0) (v := kS 8) (show 2 ≤ 3 by omega) rfl d0 ?_
  refine k_iload_n (i := 3) (z := i) rfl d1 ?_
  refine k_iconst (c := j) d2 ?_
  refine k_iadd d3 ?_
  exact k_sld h0 h1 (rr32 (by have := hc.1; omega)) d4 k
theorem nr_mk {S : S0t} {as : List AV} {μ : Mem} {Q : Mem → Option AV → Prop} (hL : Lk μ) (h : S as μ (fun μ' r => Lk μ' → Q μ' r)) : nrmS S 232 as μ Q := ⟨rfl, hL, h⟩
theorem la_201 : LAY 201 = (21, 52) := by decide +kernel
set_option maxRecDepth 20000 in
/-- feed -/
theorem lc_0 {G : Cxt} {c i : Int} {μ : Mem} (hc : ScOK G) (hI : Inv c μ) (c0 : 0 ≤ c) (hk : c ≤ 999) (hL : Lk μ) (h0 : 0 ≤ i) (h1 : i + 6 ≤ (scL G : Int)) (nx : ∀ m : Mem, Inv (c + 1) m → Lk m → VL G 1751 [] i m) : VL G 224 [] i μ := by
  have rv : ∀ j : Int, 0 ≤ j → j < 6 → r32 (scV G (i + j)) := fun j j0 j1 => hc.2 _ (by omega) (by omega)
  refine k_aload_n (i := 1) (v := kR ((0 : Nat) : Int)) (Nat.le_refl 2) rfl (by decide +kernel) ?_
  refine l_arg (j := 1) hc (by omega) (by omega) (by decide +kernel) (by decide +kernel) (by decide +kernel) (by decide +kernel) (by decide +kernel) ?_
  refine l_arg (j := 2) hc (by omega) (by omega) (by decide +kernel) (by decide +kernel) (by decide +kernel) (by decide +kernel) (by decide +kernel) ?_
  refine l_arg (j := 3) hc (by omega) (by omega) (by decide +kernel) (by decide +kernel) (by decide +kernel) (by decide +kernel) (by decide +kernel) ?_
  refine l_arg (j := 4) hc (by omega) (by omega) (by decide +kernel) (by decide +kernel) (by decide +kernel) (by decide +kernel) (by decide +kernel) ?_
  refine l_arg (j := 5) hc (by omega) (by omega) (by decide +kernel) (by decide +kernel) (by decide +kernel) (by decide +kernel) (by decide +kernel) ?_
  refine k_callV (ci := 10) (z := ((0 : Nat) : Int)) (as := [kI (scV G (i + 1)), kI (scV G (i + 2)), kI (scV G (i + 3)), kI (scV G (i + 4)), kI (scV G (i + 5))]) (st := []) ct_X10_feed mmX10_feed vvX10_feed lkL_13 ⟨by decide, by decide⟩ rfl (atO_k la_0 (by omega) (by decide)) ⟨TX10, 14, rfl⟩ ⟨by omega, by omega⟩ (Nat.le_of_ble_eq_true rfl) (by decide +kernel) (nr_mk hL (And.intro (And.intro rfl (And.intro ⟨c, hI.1⟩ (And.intro (rv 1 (by omega) (by omega)) (And.intro (rv 2 (by omega) (by omega)) (And.intro (rv 3 (by omega) (by omega)) (And.intro (rv 4 (by omega) (by omega)) ((rv 5 (by omega) (by omega))))))))) (fun m1 r1 q1 L1 => ?_)))
  show VL G 253 [kI r1] i m1
  obtain ⟨b1, b2, b3, b4⟩ := q1
  have hM := hI.mid b4
  refine k_aload_n (i := 2) (v := kR ((201 : Nat) : Int)) (Nat.le_refl 2) rfl (by decide +kernel) ?_
  refine l_arg (j := 1) hc (by omega) (by omega) (by decide +kernel) (by decide +kernel) (by decide +kernel) (by decide +kernel) (by decide +kernel) ?_
  refine l_arg (j := 2) hc (by omega) (by omega) (by decide +kernel) (by decide +kernel) (by decide +kernel) (by decide +kernel) (by decide +kernel) ?_
  refine l_arg (j := 3) hc (by omega) (by omega) (by decide +kernel) (by decide +kernel) (by decide +kernel) (by decide +kernel) (by decide +kernel) ?_
  refine l_arg (j := 4) hc (by omega) (by omega) (by decide +kernel) (by decide +kernel) (by decide +kernel) (by decide +kernel) (by decide +kernel) ?_
  refine l_arg (j := 5) hc (by omega) (by omega) (by decide +kernel) (by decide +kernel) (by decide +kernel) (by decide +kernel) (by decide +kernel) ?_
  refine k_callV (ci := 11) (z := ((201 : Nat) : Int)) (as := [kI (scV G (i + 1)), kI (scV G (i + 2)), kI (scV G (i + 3)), kI (scV G (i + 4)), kI (scV G (i + 5))]) (st := [kI r1]) ct_X11_feed mmX11_feed vvX11_feed lkL_17 ⟨by decide, by decide⟩ rfl (atO_k la_201 (by omega) (by decide)) ⟨TX11, 52, rfl⟩ ⟨by omega, by omega⟩ (Nat.le_of_ble_eq_true rfl) (by decide +kernel) (nr_mk L1 (And.intro (And.intro rfl (And.intro hM.1 (And.intro (rv 1 (by omega) (by omega)) (And.intro (rv 2 (by omega) (by omega)) (And.intro (rv 3 (by omega) (by omega)) (And.intro (rv 4 (by omega) (by omega)) ((rv 5 (by omega) (by omega))))))))) (fun m2 r2 q2 L2 => ?_)))
  show VL G 282 [kI r2, kI r1] i m2
  have hV := Inv.chg (c := c) (μ := μ) (c' := c) (by rw [hM.2]) (b1 c hI.1) b2 b3 q2 (nc_feed hI.2.1)
  rw [← hV.2]
  refine k_icmp_same (off := 1469) (tgt := 1751) (by decide) (by decide +kernel) ?_
  exact nx m2 (hV.1.le (by omega) (by omega)) L2
set_option maxRecDepth 20000 in
/-- end -/
theorem lc_1 {G : Cxt} {c i : Int} {μ : Mem} (hc : ScOK G) (hI : Inv c μ) (c0 : 0 ≤ c) (hk : c ≤ 999) (hL : Lk μ) (h0 : 0 ≤ i) (h1 : i + 6 ≤ (scL G : Int)) (nx : ∀ m : Mem, Inv (c + 1) m → Lk m → VL G 1751 [] i m) : VL G 287 [] i μ := by
  have rv : ∀ j : Int, 0 ≤ j → j < 6 → r32 (scV G (i + j)) := fun j j0 j1 => hc.2 _ (by omega) (by omega)
  refine k_aload_n (i := 1) (v := kR ((0 : Nat) : Int)) (Nat.le_refl 2) rfl (by decide +kernel) ?_
  refine l_arg (j := 1) hc (by omega) (by omega) (by decide +kernel) (by decide +kernel) (by decide +kernel) (by decide +kernel) (by decide +kernel) ?_
  refine k_callV (ci := 10) (z := ((0 : Nat) : Int)) (as := [kI (scV G (i + 1))]) (st := []) ct_X10_end mmX10_end vvX10_end lkL_18 ⟨by decide, by decide⟩ rfl (atO_k la_0 (by omega) (by decide)) ⟨TX10, 14, rfl⟩ ⟨by omega, by omega⟩ (Nat.le_of_ble_eq_true rfl) (by decide +kernel) (nr_mk hL (And.intro (And.intro rfl (And.intro ⟨c, hI.1⟩ ((rv 1 (by omega) (by omega))))) (fun m1 r1 q1 L1 => ?_)))
  show VL G 296 [kI r1] i m1
  obtain ⟨b1, b2, b3, b4⟩ := q1
  have hM := hI.mid b4
  refine k_aload_n (i := 2) (v := kR ((201 : Nat) : Int)) (Nat.le_refl 2) rfl (by decide +kernel) ?_
  refine l_arg (j := 1) hc (by omega) (by omega) (by decide +kernel) (by decide +kernel) (by decide +kernel) (by decide +kernel) (by decide +kernel) ?_
  refine k_callV (ci := 11) (z := ((201 : Nat) : Int)) (as := [kI (scV G (i + 1))]) (st := [kI r1]) ct_X11_end mmX11_end vvX11_end lkL_22 ⟨by decide, by decide⟩ rfl (atO_k la_201 (by omega) (by decide)) ⟨TX11, 52, rfl⟩ ⟨by omega, by omega⟩ (Nat.le_of_ble_eq_true rfl) (by decide +kernel) (nr_mk L1 (And.intro (And.intro rfl (And.intro hM.1 ((rv 1 (by omega) (by omega))))) (fun m2 r2 q2 L2 => ?_)))
  show VL G 305 [kI r2, kI r1] i m2
  have hV := Inv.chg (c := c) (μ := μ) (c' := c) (by rw [hM.2]) (b1 c hI.1) b2 b3 q2 (nc_end hI.2.1)
  rw [← hV.2]
  refine k_icmp_same (off := 1446) (tgt := 1751) (by decide) (by decide +kernel) ?_
  exact nx m2 (hV.1.le (by omega) (by omega)) L2
set_option maxRecDepth 20000 in
/-- town -/
theorem lc_2 {G : Cxt} {c i : Int} {μ : Mem} (hc : ScOK G) (hI : Inv c μ) (c0 : 0 ≤ c) (hk : c ≤ 999) (hL : Lk μ) (h0 : 0 ≤ i) (h1 : i + 6 ≤ (scL G : Int)) (nx : ∀ m : Mem, Inv (c + 1) m → Lk m → VL G 1751 [] i m) : VL G 310 [] i μ := by
  have rv : ∀ j : Int, 0 ≤ j → j < 6 → r32 (scV G (i + j)) := fun j j0 j1 => hc.2 _ (by omega) (by omega)
  refine k_aload_n (i := 1) (v := kR ((0 : Nat) : Int)) (Nat.le_refl 2) rfl (by decide +kernel) ?_
  refine l_arg (j := 1) hc (by omega) (by omega) (by decide +kernel) (by decide +kernel) (by decide +kernel) (by decide +kernel) (by decide +kernel) ?_
  refine k_callV (ci := 10) (z := ((0 : Nat) : Int)) (as := [kI (scV G (i + 1))]) (st := []) ct_X10_town mmX10_town vvX10_town lkL_23 ⟨by decide, by decide⟩ rfl (atO_k la_0 (by omega) (by decide)) ⟨TX10, 14, rfl⟩ ⟨by omega, by omega⟩ (Nat.le_of_ble_eq_true rfl) (by decide +kernel) (nr_mk hL (And.intro (And.intro rfl (And.intro ⟨c, hk, hI.1⟩ ((rv 1 (by omega) (by omega))))) (fun m1 r1 q1 L1 => ?_)))
  show VL G 319 [kI r1] i m1
  obtain ⟨b1, b2, b3, b4⟩ := q1
  have hM := hI.mid b4
  refine k_aload_n (i := 2) (v := kR ((201 : Nat) : Int)) (Nat.le_refl 2) rfl (by decide +kernel) ?_
  refine l_arg (j := 1) hc (by omega) (by omega) (by decide +kernel) (by decide +kernel) (by decide +kernel) (by decide +kernel) (by decide +kernel) ?_
  refine k_callV (ci := 11) (z := ((201 : Nat) : Int)) (as := [kI (scV G (i + 1))]) (st := [kI r1]) ct_X11_town mmX11_town vvX11_town lkL_26 ⟨by decide, by decide⟩ rfl (atO_k la_201 (by omega) (by decide)) ⟨TX11, 52, rfl⟩ ⟨by omega, by omega⟩ (Nat.le_of_ble_eq_true rfl) (by decide +kernel) (nr_mk L1 (And.intro (And.intro rfl (And.intro hM.1 ((rv 1 (by omega) (by omega))))) (fun m2 r2 q2 L2 => ?_)))
  show VL G 328 [kI r2, kI r1] i m2
  have hV := Inv.chg (c := c) (μ := μ) (c' := c + 1) (by rw [hM.2]) (b1 c hk hI.1) b2 b3 q2 (nc_town hI.2.1)
  rw [← hV.2]
  refine k_icmp_same (off := 1423) (tgt := 1751) (by decide) (by decide +kernel) ?_
  exact nx m2 hV.1 L2
set_option maxRecDepth 20000 in
/-- fault -/
theorem lc_3 {G : Cxt} {c i : Int} {μ : Mem} (hc : ScOK G) (hI : Inv c μ) (c0 : 0 ≤ c) (hk : c ≤ 999) (hL : Lk μ) (h0 : 0 ≤ i) (h1 : i + 6 ≤ (scL G : Int)) (nx : ∀ m : Mem, Inv (c + 1) m → Lk m → VL G 1751 [] i m) : VL G 333 [] i μ := by
  have rv : ∀ j : Int, 0 ≤ j → j < 6 → r32 (scV G (i + j)) := fun j j0 j1 => hc.2 _ (by omega) (by omega)
  refine k_aload_n (i := 1) (v := kR ((0 : Nat) : Int)) (Nat.le_refl 2) rfl (by decide +kernel) ?_
  refine l_arg (j := 1) hc (by omega) (by omega) (by decide +kernel) (by decide +kernel) (by decide +kernel) (by decide +kernel) (by decide +kernel) ?_
  refine k_callV (ci := 10) (z := ((0 : Nat) : Int)) (as := [kI (scV G (i + 1))]) (st := []) ct_X10_fault mmX10_fault vvX10_fault lkL_27 ⟨by decide, by decide⟩ rfl (atO_k la_0 (by omega) (by decide)) ⟨TX10, 14, rfl⟩ ⟨by omega, by omega⟩ (Nat.le_of_ble_eq_true rfl) (by decide +kernel) (nr_mk hL (And.intro (And.intro rfl (And.intro ⟨c, hI.1⟩ ((rv 1 (by omega) (by omega))))) (fun m1 r1 q1 L1 => ?_)))
  show VL G 342 [kI r1] i m1
  obtain ⟨b1, b2⟩ := q1
  have hM := hI.mid (fun z hz => b1.2 z (Or.inr hz))
  refine k_aload_n (i := 2) (v := kR ((201 : Nat) : Int)) (Nat.le_refl 2) rfl (by decide +kernel) ?_
  refine l_arg (j := 1) hc (by omega) (by omega) (by decide +kernel) (by decide +kernel) (by decide +kernel) (by decide +kernel) (by decide +kernel) ?_
  refine k_callV (ci := 11) (z := ((201 : Nat) : Int)) (as := [kI (scV G (i + 1))]) (st := [kI r1]) ct_X11_fault mmX11_fault vvX11_fault lkL_30 ⟨by decide, by decide⟩ rfl (atO_k la_201 (by omega) (by decide)) ⟨TX11, 52, rfl⟩ ⟨by omega, by omega⟩ (Nat.le_of_ble_eq_true rfl) (by decide +kernel) (nr_mk L1 (And.intro (And.intro rfl (And.intro hM.1 ((rv 1 (by omega) (by omega))))) (fun m2 r2 q2 L2 => ?_)))
  show VL G 351 [kI r2, kI r1] i m2
  obtain ⟨d1, d2⟩ := q2
  have e : r2 = r1 := by rw [b2, d2, hM.2]; rfl
  rw [e]
  refine k_icmp_same (off := 1400) (tgt := 1751) (by decide) (by decide +kernel) ?_
  exact nx m2 ((hI.ask b1 d1).le (by omega) (by omega)) L2
set_option maxRecDepth 20000 in
/-- about -/
theorem lc_4 {G : Cxt} {c i : Int} {μ : Mem} (hc : ScOK G) (hI : Inv c μ) (c0 : 0 ≤ c) (hk : c ≤ 999) (hL : Lk μ) (h0 : 0 ≤ i) (h1 : i + 6 ≤ (scL G : Int)) (nx : ∀ m : Mem, Inv (c + 1) m → Lk m → VL G 1751 [] i m) : VL G 356 [] i μ := by
  have rv : ∀ j : Int, 0 ≤ j → j < 6 → r32 (scV G (i + j)) := fun j j0 j1 => hc.2 _ (by omega) (by omega)
  refine k_aload_n (i := 1) (v := kR ((0 : Nat) : Int)) (Nat.le_refl 2) rfl (by decide +kernel) ?_
  refine l_arg (j := 1) hc (by omega) (by omega) (by decide +kernel) (by decide +kernel) (by decide +kernel) (by decide +kernel) (by decide +kernel) ?_
  refine l_arg (j := 2) hc (by omega) (by omega) (by decide +kernel) (by decide +kernel) (by decide +kernel) (by decide +kernel) (by decide +kernel) ?_
  refine k_callV (ci := 10) (z := ((0 : Nat) : Int)) (as := [kI (scV G (i + 1)), kI (scV G (i + 2))]) (st := []) ct_X10_about mmX10_about vvX10_about lkL_31 ⟨by decide, by decide⟩ rfl (atO_k la_0 (by omega) (by decide)) ⟨TX10, 14, rfl⟩ ⟨by omega, by omega⟩ (Nat.le_of_ble_eq_true rfl) (by decide +kernel) (nr_mk hL (And.intro (And.intro rfl (And.intro ⟨c, hI.1⟩ (And.intro (rv 1 (by omega) (by omega)) ((rv 2 (by omega) (by omega)))))) (fun m1 r1 q1 L1 => ?_)))
  show VL G 370 [kI r1] i m1
  obtain ⟨b1, b2⟩ := q1
  have hM := hI.mid (fun z hz => b1.2 z (Or.inr hz))
  refine k_aload_n (i := 2) (v := kR ((201 : Nat) : Int)) (Nat.le_refl 2) rfl (by decide +kernel) ?_
  refine l_arg (j := 1) hc (by omega) (by omega) (by decide +kernel) (by decide +kernel) (by decide +kernel) (by decide +kernel) (by decide +kernel) ?_
  refine l_arg (j := 2) hc (by omega) (by omega) (by decide +kernel) (by decide +kernel) (by decide +kernel) (by decide +kernel) (by decide +kernel) ?_
  refine k_callV (ci := 11) (z := ((201 : Nat) : Int)) (as := [kI (scV G (i + 1)), kI (scV G (i + 2))]) (st := [kI r1]) ct_X11_about mmX11_about vvX11_about lkL_35 ⟨by decide, by decide⟩ rfl (atO_k la_201 (by omega) (by decide)) ⟨TX11, 52, rfl⟩ ⟨by omega, by omega⟩ (Nat.le_of_ble_eq_true rfl) (by decide +kernel) (nr_mk L1 (And.intro (And.intro rfl (And.intro hM.1 (And.intro (rv 1 (by omega) (by omega)) ((rv 2 (by omega) (by omega)))))) (fun m2 r2 q2 L2 => ?_)))
  show VL G 384 [kI r2, kI r1] i m2
  obtain ⟨d1, d2⟩ := q2
  have e : r2 = r1 := by rw [b2, d2, hM.2]; rfl
  rw [e]
  refine k_icmp_same (off := 1367) (tgt := 1751) (by decide) (by decide +kernel) ?_
  exact nx m2 ((hI.ask b1 d1).le (by omega) (by omega)) L2
set_option maxRecDepth 20000 in
/-- lane -/
theorem lc_5 {G : Cxt} {c i : Int} {μ : Mem} (hc : ScOK G) (hI : Inv c μ) (c0 : 0 ≤ c) (hk : c ≤ 999) (hL : Lk μ) (h0 : 0 ≤ i) (h1 : i + 6 ≤ (scL G : Int)) (nx : ∀ m : Mem, Inv (c + 1) m → Lk m → VL G 1751 [] i m) : VL G 389 [] i μ := by
  have rv : ∀ j : Int, 0 ≤ j → j < 6 → r32 (scV G (i + j)) := fun j j0 j1 => hc.2 _ (by omega) (by omega)
  refine k_aload_n (i := 1) (v := kR ((0 : Nat) : Int)) (Nat.le_refl 2) rfl (by decide +kernel) ?_
  refine l_arg (j := 1) hc (by omega) (by omega) (by decide +kernel) (by decide +kernel) (by decide +kernel) (by decide +kernel) (by decide +kernel) ?_
  refine l_arg (j := 2) hc (by omega) (by omega) (by decide +kernel) (by decide +kernel) (by decide +kernel) (by decide +kernel) (by decide +kernel) ?_
  refine l_arg (j := 3) hc (by omega) (by omega) (by decide +kernel) (by decide +kernel) (by decide +kernel) (by decide +kernel) (by decide +kernel) ?_
  refine k_callV (ci := 10) (z := ((0 : Nat) : Int)) (as := [kI (scV G (i + 1)), kI (scV G (i + 2)), kI (scV G (i + 3))]) (st := []) ct_X10_lane mmX10_lane vvX10_lane lkL_36 ⟨by decide, by decide⟩ rfl (atO_k la_0 (by omega) (by decide)) ⟨TX10, 14, rfl⟩ ⟨by omega, by omega⟩ (Nat.le_of_ble_eq_true rfl) (by decide +kernel) (nr_mk hL (And.intro (And.intro rfl (And.intro ⟨c, hI.1⟩ (And.intro (rv 1 (by omega) (by omega)) (And.intro (rv 2 (by omega) (by omega)) ((rv 3 (by omega) (by omega))))))) (fun m1 r1 q1 L1 => ?_)))
  show VL G 408 [kI r1] i m1
  obtain ⟨b1, b2⟩ := q1
  have hM := hI.mid (fun z hz => b1.2 z (Or.inr hz))
  refine k_aload_n (i := 2) (v := kR ((201 : Nat) : Int)) (Nat.le_refl 2) rfl (by decide +kernel) ?_
  refine l_arg (j := 1) hc (by omega) (by omega) (by decide +kernel) (by decide +kernel) (by decide +kernel) (by decide +kernel) (by decide +kernel) ?_
  refine l_arg (j := 2) hc (by omega) (by omega) (by decide +kernel) (by decide +kernel) (by decide +kernel) (by decide +kernel) (by decide +kernel) ?_
  refine l_arg (j := 3) hc (by omega) (by omega) (by decide +kernel) (by decide +kernel) (by decide +kernel) (by decide +kernel) (by decide +kernel) ?_
  refine k_callV (ci := 11) (z := ((201 : Nat) : Int)) (as := [kI (scV G (i + 1)), kI (scV G (i + 2)), kI (scV G (i + 3))]) (st := [kI r1]) ct_X11_lane mmX11_lane vvX11_lane lkL_40 ⟨by decide, by decide⟩ rfl (atO_k la_201 (by omega) (by decide)) ⟨TX11, 52, rfl⟩ ⟨by omega, by omega⟩ (Nat.le_of_ble_eq_true rfl) (by decide +kernel) (nr_mk L1 (And.intro (And.intro rfl (And.intro hM.1 (And.intro (rv 1 (by omega) (by omega)) (And.intro (rv 2 (by omega) (by omega)) ((rv 3 (by omega) (by omega))))))) (fun m2 r2 q2 L2 => ?_)))
  show VL G 427 [kI r2, kI r1] i m2
  obtain ⟨d1, d2⟩ := q2
  have e : r2 = r1 := by rw [b2, d2, hM.2]; rfl
  rw [e]
  refine k_icmp_same (off := 1324) (tgt := 1751) (by decide) (by decide +kernel) ?_
  exact nx m2 ((hI.ask b1 d1).le (by omega) (by omega)) L2
set_option maxRecDepth 20000 in
/-- way -/
theorem lc_6 {G : Cxt} {c i : Int} {μ : Mem} (hc : ScOK G) (hI : Inv c μ) (c0 : 0 ≤ c) (hk : c ≤ 999) (hL : Lk μ) (h0 : 0 ≤ i) (h1 : i + 6 ≤ (scL G : Int)) (nx : ∀ m : Mem, Inv (c + 1) m → Lk m → VL G 1751 [] i m) : VL G 432 [] i μ := by
  have rv : ∀ j : Int, 0 ≤ j → j < 6 → r32 (scV G (i + j)) := fun j j0 j1 => hc.2 _ (by omega) (by omega)
  refine k_aload_n (i := 1) (v := kR ((0 : Nat) : Int)) (Nat.le_refl 2) rfl (by decide +kernel) ?_
  refine l_arg (j := 1) hc (by omega) (by omega) (by decide +kernel) (by decide +kernel) (by decide +kernel) (by decide +kernel) (by decide +kernel) ?_
  refine l_arg (j := 2) hc (by omega) (by omega) (by decide +kernel) (by decide +kernel) (by decide +kernel) (by decide +kernel) (by decide +kernel) ?_
  refine l_arg (j := 3) hc (by omega) (by omega) (by decide +kernel) (by decide +kernel) (by decide +kernel) (by decide +kernel) (by decide +kernel) ?_
  refine k_callV (ci := 10) (z := ((0 : Nat) : Int)) (as := [kI (scV G (i + 1)), kI (scV G (i + 2)), kI (scV G (i + 3))]) (st := []) ct_X10_way mmX10_way vvX10_way lkL_41 ⟨by decide, by decide⟩ rfl (atO_k la_0 (by omega) (by decide)) ⟨TX10, 14, rfl⟩ ⟨by omega, by omega⟩ (Nat.le_of_ble_eq_true rfl) (by decide +kernel) (nr_mk hL (And.intro (And.intro rfl (And.intro ⟨c, hI.1⟩ (And.intro (rv 1 (by omega) (by omega)) (And.intro (rv 2 (by omega) (by omega)) ((rv 3 (by omega) (by omega))))))) (fun m1 r1 q1 L1 => ?_)))
  show VL G 451 [kI r1] i m1
  obtain ⟨b1, b2⟩ := q1
  have hM := hI.mid (fun z hz => b1.2 z (Or.inr hz))
  refine k_aload_n (i := 2) (v := kR ((201 : Nat) : Int)) (Nat.le_refl 2) rfl (by decide +kernel) ?_
  refine l_arg (j := 1) hc (by omega) (by omega) (by decide +kernel) (by decide +kernel) (by decide +kernel) (by decide +kernel) (by decide +kernel) ?_
  refine l_arg (j := 2) hc (by omega) (by omega) (by decide +kernel) (by decide +kernel) (by decide +kernel) (by decide +kernel) (by decide +kernel) ?_
  refine l_arg (j := 3) hc (by omega) (by omega) (by decide +kernel) (by decide +kernel) (by decide +kernel) (by decide +kernel) (by decide +kernel) ?_
  refine k_callV (ci := 11) (z := ((201 : Nat) : Int)) (as := [kI (scV G (i + 1)), kI (scV G (i + 2)), kI (scV G (i + 3))]) (st := [kI r1]) ct_X11_way mmX11_way vvX11_way lkL_44 ⟨by decide, by decide⟩ rfl (atO_k la_201 (by omega) (by decide)) ⟨TX11, 52, rfl⟩ ⟨by omega, by omega⟩ (Nat.le_of_ble_eq_true rfl) (by decide +kernel) (nr_mk L1 (And.intro (And.intro rfl (And.intro hM.1 (And.intro (rv 1 (by omega) (by omega)) (And.intro (rv 2 (by omega) (by omega)) ((rv 3 (by omega) (by omega))))))) (fun m2 r2 q2 L2 => ?_)))
  show VL G 470 [kI r2, kI r1] i m2
  obtain ⟨d1, d2⟩ := q2
  have e : r2 = r1 := by rw [b2, d2, hM.2]; rfl
  rw [e]
  refine k_icmp_same (off := 1281) (tgt := 1751) (by decide) (by decide +kernel) ?_
  exact nx m2 ((hI.ask b1 d1).le (by omega) (by omega)) L2
set_option maxRecDepth 20000 in
/-- walk -/
theorem lc_7 {G : Cxt} {c i : Int} {μ : Mem} (hc : ScOK G) (hI : Inv c μ) (c0 : 0 ≤ c) (hk : c ≤ 999) (hL : Lk μ) (h0 : 0 ≤ i) (h1 : i + 6 ≤ (scL G : Int)) (nx : ∀ m : Mem, Inv (c + 1) m → Lk m → VL G 1751 [] i m) : VL G 475 [] i μ := by
  have rv : ∀ j : Int, 0 ≤ j → j < 6 → r32 (scV G (i + j)) := fun j j0 j1 => hc.2 _ (by omega) (by omega)
  refine k_aload_n (i := 1) (v := kR ((0 : Nat) : Int)) (Nat.le_refl 2) rfl (by decide +kernel) ?_
  refine l_arg (j := 1) hc (by omega) (by omega) (by decide +kernel) (by decide +kernel) (by decide +kernel) (by decide +kernel) (by decide +kernel) ?_
  refine k_callV (ci := 10) (z := ((0 : Nat) : Int)) (as := [kI (scV G (i + 1))]) (st := []) ct_X10_walk mmX10_walk vvX10_walk lkL_45 ⟨by decide, by decide⟩ rfl (atO_k la_0 (by omega) (by decide)) ⟨TX10, 14, rfl⟩ ⟨by omega, by omega⟩ (Nat.le_of_ble_eq_true rfl) (by decide +kernel) (nr_mk hL (And.intro (And.intro rfl (And.intro ⟨c, hI.1⟩ ((rv 1 (by omega) (by omega))))) (fun m1 r1 q1 L1 => ?_)))
  show VL G 484 [kI r1] i m1
  obtain ⟨b1, b2, b3, b4⟩ := q1
  have hM := hI.mid b4
  refine k_aload_n (i := 2) (v := kR ((201 : Nat) : Int)) (Nat.le_refl 2) rfl (by decide +kernel) ?_
  refine l_arg (j := 1) hc (by omega) (by omega) (by decide +kernel) (by decide +kernel) (by decide +kernel) (by decide +kernel) (by decide +kernel) ?_
  refine k_callV (ci := 11) (z := ((201 : Nat) : Int)) (as := [kI (scV G (i + 1))]) (st := [kI r1]) ct_X11_walk mmX11_walk vvX11_walk lkL_48 ⟨by decide, by decide⟩ rfl (atO_k la_201 (by omega) (by decide)) ⟨TX11, 52, rfl⟩ ⟨by omega, by omega⟩ (Nat.le_of_ble_eq_true rfl) (by decide +kernel) (nr_mk L1 (And.intro (And.intro rfl (And.intro hM.1 ((rv 1 (by omega) (by omega))))) (fun m2 r2 q2 L2 => ?_)))
  show VL G 493 [kI r2, kI r1] i m2
  have hV := Inv.chg (c := c) (μ := μ) (c' := c) (by rw [hM.2]) (b1 c hI.1) b2 b3 q2 (nc_chg (fun v h => h) hI.2.1)
  rw [← hV.2]
  refine k_icmp_same (off := 1258) (tgt := 1751) (by decide) (by decide +kernel) ?_
  exact nx m2 (hV.1.le (by omega) (by omega)) L2
set_option maxRecDepth 20000 in
/-- stop -/
theorem lc_8 {G : Cxt} {c i : Int} {μ : Mem} (hc : ScOK G) (hI : Inv c μ) (c0 : 0 ≤ c) (hk : c ≤ 999) (hL : Lk μ) (h0 : 0 ≤ i) (h1 : i + 6 ≤ (scL G : Int)) (nx : ∀ m : Mem, Inv (c + 1) m → Lk m → VL G 1751 [] i m) : VL G 498 [] i μ := by
  have rv : ∀ j : Int, 0 ≤ j → j < 6 → r32 (scV G (i + j)) := fun j j0 j1 => hc.2 _ (by omega) (by omega)
  refine k_aload_n (i := 1) (v := kR ((0 : Nat) : Int)) (Nat.le_refl 2) rfl (by decide +kernel) ?_
  refine l_arg (j := 1) hc (by omega) (by omega) (by decide +kernel) (by decide +kernel) (by decide +kernel) (by decide +kernel) (by decide +kernel) ?_
  refine l_arg (j := 2) hc (by omega) (by omega) (by decide +kernel) (by decide +kernel) (by decide +kernel) (by decide +kernel) (by decide +kernel) ?_
  refine l_arg (j := 3) hc (by omega) (by omega) (by decide +kernel) (by decide +kernel) (by decide +kernel) (by decide +kernel) (by decide +kernel) ?_
  refine k_callV (ci := 10) (z := ((0 : Nat) : Int)) (as := [kI (scV G (i + 1)), kI (scV G (i + 2)), kI (scV G (i + 3))]) (st := []) ct_X10_stop mmX10_stop vvX10_stop lkL_49 ⟨by decide, by decide⟩ rfl (atO_k la_0 (by omega) (by decide)) ⟨TX10, 14, rfl⟩ ⟨by omega, by omega⟩ (Nat.le_of_ble_eq_true rfl) (by decide +kernel) (nr_mk hL (And.intro (And.intro rfl (And.intro ⟨c, hI.1⟩ (And.intro (rv 1 (by omega) (by omega)) (And.intro (rv 2 (by omega) (by omega)) ((rv 3 (by omega) (by omega))))))) (fun m1 r1 q1 L1 => ?_)))
  show VL G 517 [kI r1] i m1
  obtain ⟨b1, b2, b3, b4⟩ := q1
  have hM := hI.mid b4
  refine k_aload_n (i := 2) (v := kR ((201 : Nat) : Int)) (Nat.le_refl 2) rfl (by decide +kernel) ?_
  refine l_arg (j := 1) hc (by omega) (by omega) (by decide +kernel) (by decide +kernel) (by decide +kernel) (by decide +kernel) (by decide +kernel) ?_
  refine l_arg (j := 2) hc (by omega) (by omega) (by decide +kernel) (by decide +kernel) (by decide +kernel) (by decide +kernel) (by decide +kernel) ?_
  refine l_arg (j := 3) hc (by omega) (by omega) (by decide +kernel) (by decide +kernel) (by decide +kernel) (by decide +kernel) (by decide +kernel) ?_
  refine k_callV (ci := 11) (z := ((201 : Nat) : Int)) (as := [kI (scV G (i + 1)), kI (scV G (i + 2)), kI (scV G (i + 3))]) (st := [kI r1]) ct_X11_stop mmX11_stop vvX11_stop lkL_52 ⟨by decide, by decide⟩ rfl (atO_k la_201 (by omega) (by decide)) ⟨TX11, 52, rfl⟩ ⟨by omega, by omega⟩ (Nat.le_of_ble_eq_true rfl) (by decide +kernel) (nr_mk L1 (And.intro (And.intro rfl (And.intro hM.1 (And.intro (rv 1 (by omega) (by omega)) (And.intro (rv 2 (by omega) (by omega)) ((rv 3 (by omega) (by omega))))))) (fun m2 r2 q2 L2 => ?_)))
  show VL G 536 [kI r2, kI r1] i m2
  have hV := Inv.chg (c := c) (μ := μ) (c' := c) (by rw [hM.2]) (b1 c hI.1) b2 b3 q2 (nc_chg (fun v h => h) hI.2.1)
  rw [← hV.2]
  refine k_icmp_same (off := 1215) (tgt := 1751) (by decide) (by decide +kernel) ?_
  exact nx m2 (hV.1.le (by omega) (by omega)) L2
set_option maxRecDepth 20000 in
/-- weigh -/
theorem lc_9 {G : Cxt} {c i : Int} {μ : Mem} (hc : ScOK G) (hI : Inv c μ) (c0 : 0 ≤ c) (hk : c ≤ 999) (hL : Lk μ) (h0 : 0 ≤ i) (h1 : i + 6 ≤ (scL G : Int)) (nx : ∀ m : Mem, Inv (c + 1) m → Lk m → VL G 1751 [] i m) : VL G 541 [] i μ := by
  have rv : ∀ j : Int, 0 ≤ j → j < 6 → r32 (scV G (i + j)) := fun j j0 j1 => hc.2 _ (by omega) (by omega)
  refine k_aload_n (i := 1) (v := kR ((0 : Nat) : Int)) (Nat.le_refl 2) rfl (by decide +kernel) ?_
  refine l_arg (j := 1) hc (by omega) (by omega) (by decide +kernel) (by decide +kernel) (by decide +kernel) (by decide +kernel) (by decide +kernel) ?_
  refine l_arg (j := 2) hc (by omega) (by omega) (by decide +kernel) (by decide +kernel) (by decide +kernel) (by decide +kernel) (by decide +kernel) ?_
  refine l_arg (j := 3) hc (by omega) (by omega) (by decide +kernel) (by decide +kernel) (by decide +kernel) (by decide +kernel) (by decide +kernel) ?_
  refine k_callV (ci := 10) (z := ((0 : Nat) : Int)) (as := [kI (scV G (i + 1)), kI (scV G (i + 2)), kI (scV G (i + 3))]) (st := []) ct_X10_weigh mmX10_weigh vvX10_weigh lkL_53 ⟨by decide, by decide⟩ rfl (atO_k la_0 (by omega) (by decide)) ⟨TX10, 14, rfl⟩ ⟨by omega, by omega⟩ (Nat.le_of_ble_eq_true rfl) (by decide +kernel) (nr_mk hL (And.intro (And.intro rfl (And.intro ⟨c, hI.1⟩ (And.intro (rv 1 (by omega) (by omega)) (And.intro (rv 2 (by omega) (by omega)) ((rv 3 (by omega) (by omega))))))) (fun m1 r1 q1 L1 => ?_)))
  show VL G 560 [kI r1] i m1
  obtain ⟨b1, b2, b3, b4⟩ := q1
  have hM := hI.mid b4
  refine k_aload_n (i := 2) (v := kR ((201 : Nat) : Int)) (Nat.le_refl 2) rfl (by decide +kernel) ?_
  refine l_arg (j := 1) hc (by omega) (by omega) (by decide +kernel) (by decide +kernel) (by decide +kernel) (by decide +kernel) (by decide +kernel) ?_
  refine l_arg (j := 2) hc (by omega) (by omega) (by decide +kernel) (by decide +kernel) (by decide +kernel) (by decide +kernel) (by decide +kernel) ?_
  refine l_arg (j := 3) hc (by omega) (by omega) (by decide +kernel) (by decide +kernel) (by decide +kernel) (by decide +kernel) (by decide +kernel) ?_
  refine k_callV (ci := 11) (z := ((201 : Nat) : Int)) (as := [kI (scV G (i + 1)), kI (scV G (i + 2)), kI (scV G (i + 3))]) (st := [kI r1]) ct_X11_weigh mmX11_weigh vvX11_weigh lkL_57 ⟨by decide, by decide⟩ rfl (atO_k la_201 (by omega) (by decide)) ⟨TX11, 52, rfl⟩ ⟨by omega, by omega⟩ (Nat.le_of_ble_eq_true rfl) (by decide +kernel) (nr_mk L1 (And.intro (And.intro rfl (And.intro hM.1 (And.intro (rv 1 (by omega) (by omega)) (And.intro (rv 2 (by omega) (by omega)) ((rv 3 (by omega) (by omega))))))) (fun m2 r2 q2 L2 => ?_)))
  show VL G 579 [kI r2, kI r1] i m2
  have hV := Inv.chg (c := c) (μ := μ) (c' := c) (by rw [hM.2]) (b1 c hI.1) b2 b3 q2 (nc_chg (fun v h => h) hI.2.1)
  rw [← hV.2]
  refine k_icmp_same (off := 1172) (tgt := 1751) (by decide) (by decide +kernel) ?_
  exact nx m2 (hV.1.le (by omega) (by omega)) L2
set_option maxRecDepth 20000 in
/-- found -/
theorem lc_10 {G : Cxt} {c i : Int} {μ : Mem} (hc : ScOK G) (hI : Inv c μ) (c0 : 0 ≤ c) (hk : c ≤ 999) (hL : Lk μ) (h0 : 0 ≤ i) (h1 : i + 6 ≤ (scL G : Int)) (nx : ∀ m : Mem, Inv (c + 1) m → Lk m → VL G 1751 [] i m) : VL G 584 [] i μ := by
  have rv : ∀ j : Int, 0 ≤ j → j < 6 → r32 (scV G (i + j)) := fun j j0 j1 => hc.2 _ (by omega) (by omega)
  refine k_aload_n (i := 1) (v := kR ((0 : Nat) : Int)) (Nat.le_refl 2) rfl (by decide +kernel) ?_
  refine l_arg (j := 1) hc (by omega) (by omega) (by decide +kernel) (by decide +kernel) (by decide +kernel) (by decide +kernel) (by decide +kernel) ?_
  refine l_arg (j := 2) hc (by omega) (by omega) (by decide +kernel) (by decide +kernel) (by decide +kernel) (by decide +kernel) (by decide +kernel) ?_
  refine l_arg (j := 3) hc (by omega) (by omega) (by decide +kernel) (by decide +kernel) (by decide +kernel) (by decide +kernel) (by decide +kernel) ?_
  refine k_callV (ci := 10) (z := ((0 : Nat) : Int)) (as := [kI (scV G (i + 1)), kI (scV G (i + 2)), kI (scV G (i + 3))]) (st := []) ct_X10_found mmX10_found vvX10_found lkL_58 ⟨by decide, by decide⟩ rfl (atO_k la_0 (by omega) (by decide)) ⟨TX10, 14, rfl⟩ ⟨by omega, by omega⟩ (Nat.le_of_ble_eq_true rfl) (by decide +kernel) (nr_mk hL (And.intro (And.intro rfl (And.intro ⟨c, hI.1⟩ (And.intro (rv 1 (by omega) (by omega)) (And.intro (rv 2 (by omega) (by omega)) ((rv 3 (by omega) (by omega))))))) (fun m1 r1 q1 L1 => ?_)))
  show VL G 603 [kI r1] i m1
  obtain ⟨b1, b2⟩ := q1
  have hM := hI.mid (fun z hz => b1.2 z (Or.inr hz))
  refine k_aload_n (i := 2) (v := kR ((201 : Nat) : Int)) (Nat.le_refl 2) rfl (by decide +kernel) ?_
  refine l_arg (j := 1) hc (by omega) (by omega) (by decide +kernel) (by decide +kernel) (by decide +kernel) (by decide +kernel) (by decide +kernel) ?_
  refine l_arg (j := 2) hc (by omega) (by omega) (by decide +kernel) (by decide +kernel) (by decide +kernel) (by decide +kernel) (by decide +kernel) ?_
  refine l_arg (j := 3) hc (by omega) (by omega) (by decide +kernel) (by decide +kernel) (by decide +kernel) (by decide +kernel) (by decide +kernel) ?_
  refine k_callV (ci := 11) (z := ((201 : Nat) : Int)) (as := [kI (scV G (i + 1)), kI (scV G (i + 2)), kI (scV G (i + 3))]) (st := [kI r1]) ct_X11_found mmX11_found vvX11_found lkL_61 ⟨by decide, by decide⟩ rfl (atO_k la_201 (by omega) (by decide)) ⟨TX11, 52, rfl⟩ ⟨by omega, by omega⟩ (Nat.le_of_ble_eq_true rfl) (by decide +kernel) (nr_mk L1 (And.intro (And.intro rfl (And.intro hM.1 (And.intro (rv 1 (by omega) (by omega)) (And.intro (rv 2 (by omega) (by omega)) ((rv 3 (by omega) (by omega))))))) (fun m2 r2 q2 L2 => ?_)))
  show VL G 622 [kI r2, kI r1] i m2
  obtain ⟨d1, d2⟩ := q2
  have e : r2 = r1 := by rw [b2, d2, hM.2]; rfl
  rw [e]
  refine k_icmp_same (off := 1129) (tgt := 1751) (by decide) (by decide +kernel) ?_
  exact nx m2 ((hI.ask b1 d1).le (by omega) (by omega)) L2
set_option maxRecDepth 20000 in
/-- mean -/
theorem lc_11 {G : Cxt} {c i : Int} {μ : Mem} (hc : ScOK G) (hI : Inv c μ) (c0 : 0 ≤ c) (hk : c ≤ 999) (hL : Lk μ) (h0 : 0 ≤ i) (h1 : i + 6 ≤ (scL G : Int)) (nx : ∀ m : Mem, Inv (c + 1) m → Lk m → VL G 1751 [] i m) : VL G 627 [] i μ := by
  have rv : ∀ j : Int, 0 ≤ j → j < 6 → r32 (scV G (i + j)) := fun j j0 j1 => hc.2 _ (by omega) (by omega)
  refine k_aload_n (i := 1) (v := kR ((0 : Nat) : Int)) (Nat.le_refl 2) rfl (by decide +kernel) ?_
  refine l_arg (j := 1) hc (by omega) (by omega) (by decide +kernel) (by decide +kernel) (by decide +kernel) (by decide +kernel) (by decide +kernel) ?_
  refine l_arg (j := 2) hc (by omega) (by omega) (by decide +kernel) (by decide +kernel) (by decide +kernel) (by decide +kernel) (by decide +kernel) ?_
  refine k_callV (ci := 10) (z := ((0 : Nat) : Int)) (as := [kI (scV G (i + 1)), kI (scV G (i + 2))]) (st := []) ct_X10_mean mmX10_mean vvX10_mean lkL_62 ⟨by decide, by decide⟩ rfl (atO_k la_0 (by omega) (by decide)) ⟨TX10, 14, rfl⟩ ⟨by omega, by omega⟩ (Nat.le_of_ble_eq_true rfl) (by decide +kernel) (nr_mk hL (And.intro (And.intro rfl (And.intro ⟨c, hI.1⟩ (And.intro (rv 1 (by omega) (by omega)) ((rv 2 (by omega) (by omega)))))) (fun m1 r1 q1 L1 => ?_)))
  show VL G 641 [kI r1] i m1
  obtain ⟨b1, b2⟩ := q1
  have hM := hI.mid (fun z hz => b1.2 z (Or.inr hz))
  refine k_aload_n (i := 2) (v := kR ((201 : Nat) : Int)) (Nat.le_refl 2) rfl (by decide +kernel) ?_
  refine l_arg (j := 1) hc (by omega) (by omega) (by decide +kernel) (by decide +kernel) (by decide +kernel) (by decide +kernel) (by decide +kernel) ?_
  refine l_arg (j := 2) hc (by omega) (by omega) (by decide +kernel) (by decide +kernel) (by decide +kernel) (by decide +kernel) (by decide +kernel) ?_
  refine k_callV (ci := 11) (z := ((201 : Nat) : Int)) (as := [kI (scV G (i + 1)), kI (scV G (i + 2))]) (st := [kI r1]) ct_X11_mean mmX11_mean vvX11_mean lkL_65 ⟨by decide, by decide⟩ rfl (atO_k la_201 (by omega) (by decide)) ⟨TX11, 52, rfl⟩ ⟨by omega, by omega⟩ (Nat.le_of_ble_eq_true rfl) (by decide +kernel) (nr_mk L1 (And.intro (And.intro rfl (And.intro hM.1 (And.intro (rv 1 (by omega) (by omega)) ((rv 2 (by omega) (by omega)))))) (fun m2 r2 q2 L2 => ?_)))
  show VL G 655 [kI r2, kI r1] i m2
  obtain ⟨d1, d2⟩ := q2
  have e : r2 = r1 := by rw [b2, d2, hM.2]; rfl
  rw [e]
  refine k_icmp_same (off := 1096) (tgt := 1751) (by decide) (by decide +kernel) ?_
  exact nx m2 ((hI.ask b1 d1).le (by omega) (by omega)) L2
set_option maxRecDepth 20000 in
/-- best -/
theorem lc_12 {G : Cxt} {c i : Int} {μ : Mem} (hc : ScOK G) (hI : Inv c μ) (c0 : 0 ≤ c) (hk : c ≤ 999) (hL : Lk μ) (h0 : 0 ≤ i) (h1 : i + 6 ≤ (scL G : Int)) (nx : ∀ m : Mem, Inv (c + 1) m → Lk m → VL G 1751 [] i m) : VL G 660 [] i μ := by
  have rv : ∀ j : Int, 0 ≤ j → j < 6 → r32 (scV G (i + j)) := fun j j0 j1 => hc.2 _ (by omega) (by omega)
  refine k_aload_n (i := 1) (v := kR ((0 : Nat) : Int)) (Nat.le_refl 2) rfl (by decide +kernel) ?_
  refine l_arg (j := 1) hc (by omega) (by omega) (by decide +kernel) (by decide +kernel) (by decide +kernel) (by decide +kernel) (by decide +kernel) ?_
  refine l_arg (j := 2) hc (by omega) (by omega) (by decide +kernel) (by decide +kernel) (by decide +kernel) (by decide +kernel) (by decide +kernel) ?_
  refine k_callV (ci := 10) (z := ((0 : Nat) : Int)) (as := [kI (scV G (i + 1)), kI (scV G (i + 2))]) (st := []) ct_X10_best mmX10_best vvX10_best lkL_66 ⟨by decide, by decide⟩ rfl (atO_k la_0 (by omega) (by decide)) ⟨TX10, 14, rfl⟩ ⟨by omega, by omega⟩ (Nat.le_of_ble_eq_true rfl) (by decide +kernel) (nr_mk hL (And.intro (And.intro rfl (And.intro ⟨c, hI.1⟩ (And.intro (rv 1 (by omega) (by omega)) ((rv 2 (by omega) (by omega)))))) (fun m1 r1 q1 L1 => ?_)))
  show VL G 674 [kI r1] i m1
  obtain ⟨b1, b2⟩ := q1
  have hM := hI.mid (fun z hz => b1.2 z (Or.inr hz))
  refine k_aload_n (i := 2) (v := kR ((201 : Nat) : Int)) (Nat.le_refl 2) rfl (by decide +kernel) ?_
  refine l_arg (j := 1) hc (by omega) (by omega) (by decide +kernel) (by decide +kernel) (by decide +kernel) (by decide +kernel) (by decide +kernel) ?_
  refine l_arg (j := 2) hc (by omega) (by omega) (by decide +kernel) (by decide +kernel) (by decide +kernel) (by decide +kernel) (by decide +kernel) ?_
  refine k_callV (ci := 11) (z := ((201 : Nat) : Int)) (as := [kI (scV G (i + 1)), kI (scV G (i + 2))]) (st := [kI r1]) ct_X11_best mmX11_best vvX11_best lkL_69 ⟨by decide, by decide⟩ rfl (atO_k la_201 (by omega) (by decide)) ⟨TX11, 52, rfl⟩ ⟨by omega, by omega⟩ (Nat.le_of_ble_eq_true rfl) (by decide +kernel) (nr_mk L1 (And.intro (And.intro rfl (And.intro hM.1 (And.intro (rv 1 (by omega) (by omega)) ((rv 2 (by omega) (by omega)))))) (fun m2 r2 q2 L2 => ?_)))
  show VL G 688 [kI r2, kI r1] i m2
  obtain ⟨d1, d2⟩ := q2
  have e : r2 = r1 := by rw [b2, d2, hM.2]; rfl
  rw [e]
  refine k_icmp_same (off := 1063) (tgt := 1751) (by decide) (by decide +kernel) ?_
  exact nx m2 ((hI.ask b1 d1).le (by omega) (by omega)) L2
set_option maxRecDepth 20000 in
/-- two -/
theorem lc_13 {G : Cxt} {c i : Int} {μ : Mem} (hc : ScOK G) (hI : Inv c μ) (c0 : 0 ≤ c) (hk : c ≤ 999) (hL : Lk μ) (h0 : 0 ≤ i) (h1 : i + 6 ≤ (scL G : Int)) (nx : ∀ m : Mem, Inv (c + 1) m → Lk m → VL G 1751 [] i m) : VL G 693 [] i μ := by
  have rv : ∀ j : Int, 0 ≤ j → j < 6 → r32 (scV G (i + j)) := fun j j0 j1 => hc.2 _ (by omega) (by omega)
  refine k_aload_n (i := 1) (v := kR ((0 : Nat) : Int)) (Nat.le_refl 2) rfl (by decide +kernel) ?_
  refine l_arg (j := 1) hc (by omega) (by omega) (by decide +kernel) (by decide +kernel) (by decide +kernel) (by decide +kernel) (by decide +kernel) ?_
  refine l_arg (j := 2) hc (by omega) (by omega) (by decide +kernel) (by decide +kernel) (by decide +kernel) (by decide +kernel) (by decide +kernel) ?_
  refine k_callV (ci := 10) (z := ((0 : Nat) : Int)) (as := [kI (scV G (i + 1)), kI (scV G (i + 2))]) (st := []) ct_X10_two mmX10_two vvX10_two lkL_70 ⟨by decide, by decide⟩ rfl (atO_k la_0 (by omega) (by decide)) ⟨TX10, 14, rfl⟩ ⟨by omega, by omega⟩ (Nat.le_of_ble_eq_true rfl) (by decide +kernel) (nr_mk hL (And.intro (And.intro rfl (And.intro ⟨c, hI.1⟩ (And.intro (rv 1 (by omega) (by omega)) ((rv 2 (by omega) (by omega)))))) (fun m1 r1 q1 L1 => ?_)))
  show VL G 707 [kI r1] i m1
  obtain ⟨b1, b2⟩ := q1
  have hM := hI.mid (fun z hz => b1.2 z (Or.inr hz))
  refine k_aload_n (i := 2) (v := kR ((201 : Nat) : Int)) (Nat.le_refl 2) rfl (by decide +kernel) ?_
  refine l_arg (j := 1) hc (by omega) (by omega) (by decide +kernel) (by decide +kernel) (by decide +kernel) (by decide +kernel) (by decide +kernel) ?_
  refine l_arg (j := 2) hc (by omega) (by omega) (by decide +kernel) (by decide +kernel) (by decide +kernel) (by decide +kernel) (by decide +kernel) ?_
  refine k_callV (ci := 11) (z := ((201 : Nat) : Int)) (as := [kI (scV G (i + 1)), kI (scV G (i + 2))]) (st := [kI r1]) ct_X11_two mmX11_two vvX11_two lkL_73 ⟨by decide, by decide⟩ rfl (atO_k la_201 (by omega) (by decide)) ⟨TX11, 52, rfl⟩ ⟨by omega, by omega⟩ (Nat.le_of_ble_eq_true rfl) (by decide +kernel) (nr_mk L1 (And.intro (And.intro rfl (And.intro hM.1 (And.intro (rv 1 (by omega) (by omega)) ((rv 2 (by omega) (by omega)))))) (fun m2 r2 q2 L2 => ?_)))
  show VL G 721 [kI r2, kI r1] i m2
  obtain ⟨d1, d2⟩ := q2
  have e : r2 = r1 := by rw [b2, d2, hM.2]; rfl
  rw [e]
  refine k_icmp_same (off := 1030) (tgt := 1751) (by decide) (by decide +kernel) ?_
  exact nx m2 ((hI.ask b1 d1).le (by omega) (by omega)) L2
set_option maxRecDepth 20000 in
/-- barrels -/
theorem lc_14 {G : Cxt} {c i : Int} {μ : Mem} (hc : ScOK G) (hI : Inv c μ) (c0 : 0 ≤ c) (hk : c ≤ 999) (hL : Lk μ) (h0 : 0 ≤ i) (h1 : i + 6 ≤ (scL G : Int)) (nx : ∀ m : Mem, Inv (c + 1) m → Lk m → VL G 1751 [] i m) : VL G 726 [] i μ := by
  have rv : ∀ j : Int, 0 ≤ j → j < 6 → r32 (scV G (i + j)) := fun j j0 j1 => hc.2 _ (by omega) (by omega)
  rcases Classical.em (scV G (i + 2) = 0) with z | z
  · skip
    refine k_aload_n (i := 1) (v := kR ((0 : Nat) : Int)) (Nat.le_refl 2) rfl (by decide +kernel) ?_
    refine l_arg (j := 1) hc (by omega) (by omega) (by decide +kernel) (by decide +kernel) (by decide +kernel) (by decide +kernel) (by decide +kernel) ?_
    refine l_arg (j := 2) hc (by omega) (by omega) (by decide +kernel) (by decide +kernel) (by decide +kernel) (by decide +kernel) (by decide +kernel) ?_
    refine k_if_eq (off := 7) (tgt := 744) (rv 2 (by omega) (by omega)) (by decide) (by decide +kernel) (fun _ => ?_) (fun q => absurd z q)
    refine k_iconst (c := 0) (by decide +kernel) ?_
    refine l_arg (j := 3) hc (by omega) (by omega) (by decide +kernel) (by decide +kernel) (by decide +kernel) (by decide +kernel) (by decide +kernel) ?_
    refine k_callV (ci := 10) (z := ((0 : Nat) : Int)) (as := [kI (scV G (i + 1)), kI (0), kI (scV G (i + 3))]) (st := []) ct_X10_barrels mmX10_barrels vvX10_barrels lkL_74 ⟨by decide, by decide⟩ rfl (atO_k la_0 (by omega) (by decide)) ⟨TX10, 14, rfl⟩ ⟨by omega, by omega⟩ (Nat.le_of_ble_eq_true rfl) (by decide +kernel) (nr_mk hL (And.intro (And.intro rfl (And.intro ⟨c, hI.1⟩ (And.intro (rv 1 (by omega) (by omega)) (And.intro (rr32 (by omega)) ((rv 3 (by omega) (by omega))))))) (fun m1 r1 q1 L1 => ?_)))
    show VL G 753 [kI r1] i m1
    obtain ⟨b1, b2⟩ := q1
    have hM := hI.mid (fun z hz => b1.2 z (Or.inr hz))
    refine k_aload_n (i := 2) (v := kR ((201 : Nat) : Int)) (Nat.le_refl 2) rfl (by decide +kernel) ?_
    refine l_arg (j := 1) hc (by omega) (by omega) (by decide +kernel) (by decide +kernel) (by decide +kernel) (by decide +kernel) (by decide +kernel) ?_
    refine l_arg (j := 2) hc (by omega) (by omega) (by decide +kernel) (by decide +kernel) (by decide +kernel) (by decide +kernel) (by decide +kernel) ?_
    refine k_if_eq (off := 7) (tgt := 771) (rv 2 (by omega) (by omega)) (by decide) (by decide +kernel) (fun _ => ?_) (fun q => absurd z q)
    refine k_iconst (c := 0) (by decide +kernel) ?_
    refine l_arg (j := 3) hc (by omega) (by omega) (by decide +kernel) (by decide +kernel) (by decide +kernel) (by decide +kernel) (by decide +kernel) ?_
    refine k_callV (ci := 11) (z := ((201 : Nat) : Int)) (as := [kI (scV G (i + 1)), kI (0), kI (scV G (i + 3))]) (st := [kI r1]) ct_X11_barrels mmX11_barrels vvX11_barrels lkL_78 ⟨by decide, by decide⟩ rfl (atO_k la_201 (by omega) (by decide)) ⟨TX11, 52, rfl⟩ ⟨by omega, by omega⟩ (Nat.le_of_ble_eq_true rfl) (by decide +kernel) (nr_mk L1 (And.intro (And.intro rfl (And.intro hM.1 (And.intro (rv 1 (by omega) (by omega)) (And.intro (rr32 (by omega)) ((rv 3 (by omega) (by omega))))))) (fun m2 r2 q2 L2 => ?_)))
    show VL G 780 [kI r2, kI r1] i m2
    obtain ⟨d1, d2⟩ := q2
    have e : r2 = r1 := by rw [b2, d2, hM.2]; rfl
    rw [e]
    refine k_icmp_same (off := 971) (tgt := 1751) (by decide) (by decide +kernel) ?_
    exact nx m2 ((hI.ask b1 d1).le (by omega) (by omega)) L2
  · skip
    refine k_aload_n (i := 1) (v := kR ((0 : Nat) : Int)) (Nat.le_refl 2) rfl (by decide +kernel) ?_
    refine l_arg (j := 1) hc (by omega) (by omega) (by decide +kernel) (by decide +kernel) (by decide +kernel) (by decide +kernel) (by decide +kernel) ?_
    refine l_arg (j := 2) hc (by omega) (by omega) (by decide +kernel) (by decide +kernel) (by decide +kernel) (by decide +kernel) (by decide +kernel) ?_
    refine k_if_eq (off := 7) (tgt := 744) (rv 2 (by omega) (by omega)) (by decide) (by decide +kernel) (fun q => absurd q z) (fun _ => ?_)
    refine k_iconst (c := 1) (by decide +kernel) ?_
    refine k_goto (off := 4) (tgt := 745) (by decide) (by decide +kernel) ?_
    refine l_arg (j := 3) hc (by omega) (by omega) (by decide +kernel) (by decide +kernel) (by decide +kernel) (by decide +kernel) (by decide +kernel) ?_
    refine k_callV (ci := 10) (z := ((0 : Nat) : Int)) (as := [kI (scV G (i + 1)), kI (1), kI (scV G (i + 3))]) (st := []) ct_X10_barrels mmX10_barrels vvX10_barrels lkL_74 ⟨by decide, by decide⟩ rfl (atO_k la_0 (by omega) (by decide)) ⟨TX10, 14, rfl⟩ ⟨by omega, by omega⟩ (Nat.le_of_ble_eq_true rfl) (by decide +kernel) (nr_mk hL (And.intro (And.intro rfl (And.intro ⟨c, hI.1⟩ (And.intro (rv 1 (by omega) (by omega)) (And.intro (rr32 (by omega)) ((rv 3 (by omega) (by omega))))))) (fun m1 r1 q1 L1 => ?_)))
    show VL G 753 [kI r1] i m1
    obtain ⟨b1, b2⟩ := q1
    have hM := hI.mid (fun z hz => b1.2 z (Or.inr hz))
    refine k_aload_n (i := 2) (v := kR ((201 : Nat) : Int)) (Nat.le_refl 2) rfl (by decide +kernel) ?_
    refine l_arg (j := 1) hc (by omega) (by omega) (by decide +kernel) (by decide +kernel) (by decide +kernel) (by decide +kernel) (by decide +kernel) ?_
    refine l_arg (j := 2) hc (by omega) (by omega) (by decide +kernel) (by decide +kernel) (by decide +kernel) (by decide +kernel) (by decide +kernel) ?_
    refine k_if_eq (off := 7) (tgt := 771) (rv 2 (by omega) (by omega)) (by decide) (by decide +kernel) (fun q => absurd q z) (fun _ => ?_)
    refine k_iconst (c := 1) (by decide +kernel) ?_
    refine k_goto (off := 4) (tgt := 772) (by decide) (by decide +kernel) ?_
    refine l_arg (j := 3) hc (by omega) (by omega) (by decide +kernel) (by decide +kernel) (by decide +kernel) (by decide +kernel) (by decide +kernel) ?_
    refine k_callV (ci := 11) (z := ((201 : Nat) : Int)) (as := [kI (scV G (i + 1)), kI (1), kI (scV G (i + 3))]) (st := [kI r1]) ct_X11_barrels mmX11_barrels vvX11_barrels lkL_78 ⟨by decide, by decide⟩ rfl (atO_k la_201 (by omega) (by decide)) ⟨TX11, 52, rfl⟩ ⟨by omega, by omega⟩ (Nat.le_of_ble_eq_true rfl) (by decide +kernel) (nr_mk L1 (And.intro (And.intro rfl (And.intro hM.1 (And.intro (rv 1 (by omega) (by omega)) (And.intro (rr32 (by omega)) ((rv 3 (by omega) (by omega))))))) (fun m2 r2 q2 L2 => ?_)))
    show VL G 780 [kI r2, kI r1] i m2
    obtain ⟨d1, d2⟩ := q2
    have e : r2 = r1 := by rw [b2, d2, hM.2]; rfl
    rw [e]
    refine k_icmp_same (off := 971) (tgt := 1751) (by decide) (by decide +kernel) ?_
    exact nx m2 ((hI.ask b1 d1).le (by omega) (by omega)) L2
set_option maxRecDepth 20000 in
/-- more -/
theorem lc_15 {G : Cxt} {c i : Int} {μ : Mem} (hc : ScOK G) (hI : Inv c μ) (c0 : 0 ≤ c) (hk : c ≤ 999) (hL : Lk μ) (h0 : 0 ≤ i) (h1 : i + 6 ≤ (scL G : Int)) (nx : ∀ m : Mem, Inv (c + 1) m → Lk m → VL G 1751 [] i m) : VL G 785 [] i μ := by
  have rv : ∀ j : Int, 0 ≤ j → j < 6 → r32 (scV G (i + j)) := fun j j0 j1 => hc.2 _ (by omega) (by omega)
  refine k_aload_n (i := 1) (v := kR ((0 : Nat) : Int)) (Nat.le_refl 2) rfl (by decide +kernel) ?_
  refine l_arg (j := 1) hc (by omega) (by omega) (by decide +kernel) (by decide +kernel) (by decide +kernel) (by decide +kernel) (by decide +kernel) ?_
  refine l_arg (j := 2) hc (by omega) (by omega) (by decide +kernel) (by decide +kernel) (by decide +kernel) (by decide +kernel) (by decide +kernel) ?_
  refine l_arg (j := 3) hc (by omega) (by omega) (by decide +kernel) (by decide +kernel) (by decide +kernel) (by decide +kernel) (by decide +kernel) ?_
  refine k_callV (ci := 10) (z := ((0 : Nat) : Int)) (as := [kI (scV G (i + 1)), kI (scV G (i + 2)), kI (scV G (i + 3))]) (st := []) ct_X10_more mmX10_more vvX10_more lkL_79 ⟨by decide, by decide⟩ rfl (atO_k la_0 (by omega) (by decide)) ⟨TX10, 14, rfl⟩ ⟨by omega, by omega⟩ (Nat.le_of_ble_eq_true rfl) (by decide +kernel) (nr_mk hL (And.intro (And.intro rfl (And.intro ⟨c, hI.1⟩ (And.intro (rv 1 (by omega) (by omega)) (And.intro (rv 2 (by omega) (by omega)) ((rv 3 (by omega) (by omega))))))) (fun m1 r1 q1 L1 => ?_)))
  show VL G 804 [kI r1] i m1
  obtain ⟨b1, b2⟩ := q1
  have hM := hI.mid (fun z hz => b1.2 z (Or.inr hz))
  refine k_aload_n (i := 2) (v := kR ((201 : Nat) : Int)) (Nat.le_refl 2) rfl (by decide +kernel) ?_
  refine l_arg (j := 1) hc (by omega) (by omega) (by decide +kernel) (by decide +kernel) (by decide +kernel) (by decide +kernel) (by decide +kernel) ?_
  refine l_arg (j := 2) hc (by omega) (by omega) (by decide +kernel) (by decide +kernel) (by decide +kernel) (by decide +kernel) (by decide +kernel) ?_
  refine l_arg (j := 3) hc (by omega) (by omega) (by decide +kernel) (by decide +kernel) (by decide +kernel) (by decide +kernel) (by decide +kernel) ?_
  refine k_callV (ci := 11) (z := ((201 : Nat) : Int)) (as := [kI (scV G (i + 1)), kI (scV G (i + 2)), kI (scV G (i + 3))]) (st := [kI r1]) ct_X11_more mmX11_more vvX11_more lkL_82 ⟨by decide, by decide⟩ rfl (atO_k la_201 (by omega) (by decide)) ⟨TX11, 52, rfl⟩ ⟨by omega, by omega⟩ (Nat.le_of_ble_eq_true rfl) (by decide +kernel) (nr_mk L1 (And.intro (And.intro rfl (And.intro hM.1 (And.intro (rv 1 (by omega) (by omega)) (And.intro (rv 2 (by omega) (by omega)) ((rv 3 (by omega) (by omega))))))) (fun m2 r2 q2 L2 => ?_)))
  show VL G 823 [kI r2, kI r1] i m2
  obtain ⟨d1, d2⟩ := q2
  have e : r2 = r1 := by rw [b2, d2, hM.2]; rfl
  rw [e]
  refine k_icmp_same (off := 928) (tgt := 1751) (by decide) (by decide +kernel) ?_
  exact nx m2 ((hI.ask b1 d1).le (by omega) (by omega)) L2
set_option maxRecDepth 20000 in
/-- where -/
theorem lc_16 {G : Cxt} {c i : Int} {μ : Mem} (hc : ScOK G) (hI : Inv c μ) (c0 : 0 ≤ c) (hk : c ≤ 999) (hL : Lk μ) (h0 : 0 ≤ i) (h1 : i + 6 ≤ (scL G : Int)) (nx : ∀ m : Mem, Inv (c + 1) m → Lk m → VL G 1751 [] i m) : VL G 828 [] i μ := by
  have rv : ∀ j : Int, 0 ≤ j → j < 6 → r32 (scV G (i + j)) := fun j j0 j1 => hc.2 _ (by omega) (by omega)
  refine k_aload_n (i := 1) (v := kR ((0 : Nat) : Int)) (Nat.le_refl 2) rfl (by decide +kernel) ?_
  refine l_arg (j := 1) hc (by omega) (by omega) (by decide +kernel) (by decide +kernel) (by decide +kernel) (by decide +kernel) (by decide +kernel) ?_
  refine l_arg (j := 2) hc (by omega) (by omega) (by decide +kernel) (by decide +kernel) (by decide +kernel) (by decide +kernel) (by decide +kernel) ?_
  refine k_callV (ci := 10) (z := ((0 : Nat) : Int)) (as := [kI (scV G (i + 1)), kI (scV G (i + 2))]) (st := []) ct_X10_where mmX10_where vvX10_where lkL_83 ⟨by decide, by decide⟩ rfl (atO_k la_0 (by omega) (by decide)) ⟨TX10, 14, rfl⟩ ⟨by omega, by omega⟩ (Nat.le_of_ble_eq_true rfl) (by decide +kernel) (nr_mk hL (And.intro (And.intro rfl (And.intro ⟨c, hI.1⟩ (And.intro (rv 1 (by omega) (by omega)) ((rv 2 (by omega) (by omega)))))) (fun m1 r1 q1 L1 => ?_)))
  show VL G 842 [kI r1] i m1
  obtain ⟨b1, b2⟩ := q1
  have hM := hI.mid (fun z hz => b1.2 z (Or.inr hz))
  refine k_aload_n (i := 2) (v := kR ((201 : Nat) : Int)) (Nat.le_refl 2) rfl (by decide +kernel) ?_
  refine l_arg (j := 1) hc (by omega) (by omega) (by decide +kernel) (by decide +kernel) (by decide +kernel) (by decide +kernel) (by decide +kernel) ?_
  refine l_arg (j := 2) hc (by omega) (by omega) (by decide +kernel) (by decide +kernel) (by decide +kernel) (by decide +kernel) (by decide +kernel) ?_
  refine k_callV (ci := 11) (z := ((201 : Nat) : Int)) (as := [kI (scV G (i + 1)), kI (scV G (i + 2))]) (st := [kI r1]) ct_X11_where mmX11_where vvX11_where lkL_86 ⟨by decide, by decide⟩ rfl (atO_k la_201 (by omega) (by decide)) ⟨TX11, 52, rfl⟩ ⟨by omega, by omega⟩ (Nat.le_of_ble_eq_true rfl) (by decide +kernel) (nr_mk L1 (And.intro (And.intro rfl (And.intro hM.1 (And.intro (rv 1 (by omega) (by omega)) ((rv 2 (by omega) (by omega)))))) (fun m2 r2 q2 L2 => ?_)))
  show VL G 856 [kI r2, kI r1] i m2
  obtain ⟨d1, d2⟩ := q2
  have e : r2 = r1 := by rw [b2, d2, hM.2]; rfl
  rw [e]
  refine k_icmp_same (off := 895) (tgt := 1751) (by decide) (by decide +kernel) ?_
  exact nx m2 ((hI.ask b1 d1).le (by omega) (by omega)) L2
set_option maxRecDepth 20000 in
/-- both -/
theorem lc_17 {G : Cxt} {c i : Int} {μ : Mem} (hc : ScOK G) (hI : Inv c μ) (c0 : 0 ≤ c) (hk : c ≤ 999) (hL : Lk μ) (h0 : 0 ≤ i) (h1 : i + 6 ≤ (scL G : Int)) (nx : ∀ m : Mem, Inv (c + 1) m → Lk m → VL G 1751 [] i m) : VL G 861 [] i μ := by
  have rv : ∀ j : Int, 0 ≤ j → j < 6 → r32 (scV G (i + j)) := fun j j0 j1 => hc.2 _ (by omega) (by omega)
  refine k_aload_n (i := 1) (v := kR ((0 : Nat) : Int)) (Nat.le_refl 2) rfl (by decide +kernel) ?_
  refine l_arg (j := 1) hc (by omega) (by omega) (by decide +kernel) (by decide +kernel) (by decide +kernel) (by decide +kernel) (by decide +kernel) ?_
  refine l_arg (j := 2) hc (by omega) (by omega) (by decide +kernel) (by decide +kernel) (by decide +kernel) (by decide +kernel) (by decide +kernel) ?_
  refine k_callV (ci := 10) (z := ((0 : Nat) : Int)) (as := [kI (scV G (i + 1)), kI (scV G (i + 2))]) (st := []) ct_X10_both mmX10_both vvX10_both lkL_87 ⟨by decide, by decide⟩ rfl (atO_k la_0 (by omega) (by decide)) ⟨TX10, 14, rfl⟩ ⟨by omega, by omega⟩ (Nat.le_of_ble_eq_true rfl) (by decide +kernel) (nr_mk hL (And.intro (And.intro rfl (And.intro ⟨c, hI.1⟩ (And.intro (rv 1 (by omega) (by omega)) ((rv 2 (by omega) (by omega)))))) (fun m1 r1 q1 L1 => ?_)))
  show VL G 875 [kL r1] i m1
  obtain ⟨b1, b2⟩ := q1
  have hM := hI.mid (fun z hz => b1.2 z (Or.inr hz))
  refine k_aload_n (i := 2) (v := kR ((201 : Nat) : Int)) (Nat.le_refl 2) rfl (by decide +kernel) ?_
  refine l_arg (j := 1) hc (by omega) (by omega) (by decide +kernel) (by decide +kernel) (by decide +kernel) (by decide +kernel) (by decide +kernel) ?_
  refine l_arg (j := 2) hc (by omega) (by omega) (by decide +kernel) (by decide +kernel) (by decide +kernel) (by decide +kernel) (by decide +kernel) ?_
  refine k_callV (ci := 11) (z := ((201 : Nat) : Int)) (as := [kI (scV G (i + 1)), kI (scV G (i + 2))]) (st := [kL r1]) ct_X11_both mmX11_both vvX11_both lkL_91 ⟨by decide, by decide⟩ rfl (atO_k la_201 (by omega) (by decide)) ⟨TX11, 52, rfl⟩ ⟨by omega, by omega⟩ (Nat.le_of_ble_eq_true rfl) (by decide +kernel) (nr_mk L1 (And.intro (And.intro rfl (And.intro hM.1 (And.intro (rv 1 (by omega) (by omega)) ((rv 2 (by omega) (by omega)))))) (fun m2 r2 q2 L2 => ?_)))
  show VL G 889 [kL r2, kL r1] i m2
  obtain ⟨d1, d2⟩ := q2
  have e : r2 = r1 := by rw [b2, d2, hM.2]; rfl
  rw [e]
  refine k_lcmp_same (by decide +kernel) ?_
  refine k_if_eq (off := 861) (tgt := 1751) (rr32 (by omega)) (by decide) (by decide +kernel) (fun _ => ?_) (fun q => absurd rfl q)
  exact nx m2 ((hI.ask b1 d1).le (by omega) (by omega)) L2
set_option maxRecDepth 20000 in
/-- goes -/
theorem lc_18 {G : Cxt} {c i : Int} {μ : Mem} (hc : ScOK G) (hI : Inv c μ) (c0 : 0 ≤ c) (hk : c ≤ 999) (hL : Lk μ) (h0 : 0 ≤ i) (h1 : i + 6 ≤ (scL G : Int)) (nx : ∀ m : Mem, Inv (c + 1) m → Lk m → VL G 1751 [] i m) : VL G 895 [] i μ := by
  have rv : ∀ j : Int, 0 ≤ j → j < 6 → r32 (scV G (i + j)) := fun j j0 j1 => hc.2 _ (by omega) (by omega)
  refine k_aload_n (i := 1) (v := kR ((0 : Nat) : Int)) (Nat.le_refl 2) rfl (by decide +kernel) ?_
  refine l_arg (j := 1) hc (by omega) (by omega) (by decide +kernel) (by decide +kernel) (by decide +kernel) (by decide +kernel) (by decide +kernel) ?_
  refine l_arg (j := 2) hc (by omega) (by omega) (by decide +kernel) (by decide +kernel) (by decide +kernel) (by decide +kernel) (by decide +kernel) ?_
  refine l_arg (j := 3) hc (by omega) (by omega) (by decide +kernel) (by decide +kernel) (by decide +kernel) (by decide +kernel) (by decide +kernel) ?_
  refine k_callV (ci := 10) (z := ((0 : Nat) : Int)) (as := [kI (scV G (i + 1)), kI (scV G (i + 2)), kI (scV G (i + 3))]) (st := []) ct_X10_goes mmX10_goes vvX10_goes lkL_92 ⟨by decide, by decide⟩ rfl (atO_k la_0 (by omega) (by decide)) ⟨TX10, 14, rfl⟩ ⟨by omega, by omega⟩ (Nat.le_of_ble_eq_true rfl) (by decide +kernel) (nr_mk hL (And.intro (And.intro rfl (And.intro ⟨c, hI.1⟩ (And.intro (rv 1 (by omega) (by omega)) (And.intro (rv 2 (by omega) (by omega)) ((rv 3 (by omega) (by omega))))))) (fun m1 r1 q1 L1 => ?_)))
  show VL G 914 [kL r1] i m1
  obtain ⟨b1, b2⟩ := q1
  have hM := hI.mid (fun z hz => b1.2 z (Or.inr hz))
  refine k_aload_n (i := 2) (v := kR ((201 : Nat) : Int)) (Nat.le_refl 2) rfl (by decide +kernel) ?_
  refine l_arg (j := 1) hc (by omega) (by omega) (by decide +kernel) (by decide +kernel) (by decide +kernel) (by decide +kernel) (by decide +kernel) ?_
  refine l_arg (j := 2) hc (by omega) (by omega) (by decide +kernel) (by decide +kernel) (by decide +kernel) (by decide +kernel) (by decide +kernel) ?_
  refine l_arg (j := 3) hc (by omega) (by omega) (by decide +kernel) (by decide +kernel) (by decide +kernel) (by decide +kernel) (by decide +kernel) ?_
  refine k_callV (ci := 11) (z := ((201 : Nat) : Int)) (as := [kI (scV G (i + 1)), kI (scV G (i + 2)), kI (scV G (i + 3))]) (st := [kL r1]) ct_X11_goes mmX11_goes vvX11_goes lkL_96 ⟨by decide, by decide⟩ rfl (atO_k la_201 (by omega) (by decide)) ⟨TX11, 52, rfl⟩ ⟨by omega, by omega⟩ (Nat.le_of_ble_eq_true rfl) (by decide +kernel) (nr_mk L1 (And.intro (And.intro rfl (And.intro hM.1 (And.intro (rv 1 (by omega) (by omega)) (And.intro (rv 2 (by omega) (by omega)) ((rv 3 (by omega) (by omega))))))) (fun m2 r2 q2 L2 => ?_)))
  show VL G 933 [kL r2, kL r1] i m2
  obtain ⟨d1, d2⟩ := q2
  have e : r2 = r1 := by rw [b2, d2, hM.2]; rfl
  rw [e]
  refine k_lcmp_same (by decide +kernel) ?_
  refine k_if_eq (off := 817) (tgt := 1751) (rr32 (by omega)) (by decide) (by decide +kernel) (fun _ => ?_) (fun q => absurd rfl q)
  exact nx m2 ((hI.ask b1 d1).le (by omega) (by omega)) L2
set_option maxRecDepth 20000 in
/-- tree -/
theorem lc_19 {G : Cxt} {c i : Int} {μ : Mem} (hc : ScOK G) (hI : Inv c μ) (c0 : 0 ≤ c) (hk : c ≤ 999) (hL : Lk μ) (h0 : 0 ≤ i) (h1 : i + 6 ≤ (scL G : Int)) (nx : ∀ m : Mem, Inv (c + 1) m → Lk m → VL G 1751 [] i m) : VL G 939 [] i μ := by
  have rv : ∀ j : Int, 0 ≤ j → j < 6 → r32 (scV G (i + j)) := fun j j0 j1 => hc.2 _ (by omega) (by omega)
  refine k_aload_n (i := 1) (v := kR ((0 : Nat) : Int)) (Nat.le_refl 2) rfl (by decide +kernel) ?_
  refine l_arg (j := 1) hc (by omega) (by omega) (by decide +kernel) (by decide +kernel) (by decide +kernel) (by decide +kernel) (by decide +kernel) ?_
  refine k_callV (ci := 10) (z := ((0 : Nat) : Int)) (as := [kI (scV G (i + 1))]) (st := []) ct_X10_tree mmX10_tree vvX10_tree lkL_97 ⟨by decide, by decide⟩ rfl (atO_k la_0 (by omega) (by decide)) ⟨TX10, 14, rfl⟩ ⟨by omega, by omega⟩ (Nat.le_of_ble_eq_true rfl) (by decide +kernel) (nr_mk hL (And.intro (And.intro rfl (And.intro ⟨c, hI.1⟩ ((rv 1 (by omega) (by omega))))) (fun m1 r1 q1 L1 => ?_)))
  show VL G 948 [kI r1] i m1
  obtain ⟨b1, b2⟩ := q1
  have hM := hI.mid (fun z hz => b1.2 z (Or.inr hz))
  refine k_aload_n (i := 2) (v := kR ((201 : Nat) : Int)) (Nat.le_refl 2) rfl (by decide +kernel) ?_
  refine l_arg (j := 1) hc (by omega) (by omega) (by decide +kernel) (by decide +kernel) (by decide +kernel) (by decide +kernel) (by decide +kernel) ?_
  refine k_callV (ci := 11) (z := ((201 : Nat) : Int)) (as := [kI (scV G (i + 1))]) (st := [kI r1]) ct_X11_tree mmX11_tree vvX11_tree lkL_101 ⟨by decide, by decide⟩ rfl (atO_k la_201 (by omega) (by decide)) ⟨TX11, 52, rfl⟩ ⟨by omega, by omega⟩ (Nat.le_of_ble_eq_true rfl) (by decide +kernel) (nr_mk L1 (And.intro (And.intro rfl (And.intro hM.1 ((rv 1 (by omega) (by omega))))) (fun m2 r2 q2 L2 => ?_)))
  show VL G 957 [kI r2, kI r1] i m2
  obtain ⟨d1, d2⟩ := q2
  have e : r2 = r1 := by rw [b2, d2, hM.2]; rfl
  rw [e]
  refine k_icmp_same (off := 794) (tgt := 1751) (by decide) (by decide +kernel) ?_
  exact nx m2 ((hI.ask b1 d1).le (by omega) (by omega)) L2
set_option maxRecDepth 20000 in
/-- density -/
theorem lc_20 {G : Cxt} {c i : Int} {μ : Mem} (hc : ScOK G) (hI : Inv c μ) (c0 : 0 ≤ c) (hk : c ≤ 999) (hL : Lk μ) (h0 : 0 ≤ i) (h1 : i + 6 ≤ (scL G : Int)) (nx : ∀ m : Mem, Inv (c + 1) m → Lk m → VL G 1751 [] i m) : VL G 962 [] i μ := by
  have rv : ∀ j : Int, 0 ≤ j → j < 6 → r32 (scV G (i + j)) := fun j j0 j1 => hc.2 _ (by omega) (by omega)
  refine k_aload_n (i := 1) (v := kR ((0 : Nat) : Int)) (Nat.le_refl 2) rfl (by decide +kernel) ?_
  refine l_arg (j := 1) hc (by omega) (by omega) (by decide +kernel) (by decide +kernel) (by decide +kernel) (by decide +kernel) (by decide +kernel) ?_
  refine l_arg (j := 2) hc (by omega) (by omega) (by decide +kernel) (by decide +kernel) (by decide +kernel) (by decide +kernel) (by decide +kernel) ?_
  refine l_arg (j := 3) hc (by omega) (by omega) (by decide +kernel) (by decide +kernel) (by decide +kernel) (by decide +kernel) (by decide +kernel) ?_
  refine k_callV (ci := 10) (z := ((0 : Nat) : Int)) (as := [kI (scV G (i + 1)), kI (scV G (i + 2)), kI (scV G (i + 3))]) (st := []) ct_X10_density mmX10_density vvX10_density lkL_102 ⟨by decide, by decide⟩ rfl (atO_k la_0 (by omega) (by decide)) ⟨TX10, 14, rfl⟩ ⟨by omega, by omega⟩ (Nat.le_of_ble_eq_true rfl) (by decide +kernel) (nr_mk hL (And.intro (And.intro rfl (And.intro ⟨c, hI.1⟩ (And.intro (rv 1 (by omega) (by omega)) (And.intro (rv 2 (by omega) (by omega)) ((rv 3 (by omega) (by omega))))))) (fun m1 r1 q1 L1 => ?_)))
  show VL G 981 [kL r1] i m1
  obtain ⟨b1, b2⟩ := q1
  have hM := hI.mid (fun z hz => b1.2 z (Or.inr hz))
  refine k_aload_n (i := 2) (v := kR ((201 : Nat) : Int)) (Nat.le_refl 2) rfl (by decide +kernel) ?_
  refine l_arg (j := 1) hc (by omega) (by omega) (by decide +kernel) (by decide +kernel) (by decide +kernel) (by decide +kernel) (by decide +kernel) ?_
  refine l_arg (j := 2) hc (by omega) (by omega) (by decide +kernel) (by decide +kernel) (by decide +kernel) (by decide +kernel) (by decide +kernel) ?_
  refine l_arg (j := 3) hc (by omega) (by omega) (by decide +kernel) (by decide +kernel) (by decide +kernel) (by decide +kernel) (by decide +kernel) ?_
  refine k_callV (ci := 11) (z := ((201 : Nat) : Int)) (as := [kI (scV G (i + 1)), kI (scV G (i + 2)), kI (scV G (i + 3))]) (st := [kL r1]) ct_X11_density mmX11_density vvX11_density lkL_105 ⟨by decide, by decide⟩ rfl (atO_k la_201 (by omega) (by decide)) ⟨TX11, 52, rfl⟩ ⟨by omega, by omega⟩ (Nat.le_of_ble_eq_true rfl) (by decide +kernel) (nr_mk L1 (And.intro (And.intro rfl (And.intro hM.1 (And.intro (rv 1 (by omega) (by omega)) (And.intro (rv 2 (by omega) (by omega)) ((rv 3 (by omega) (by omega))))))) (fun m2 r2 q2 L2 => ?_)))
  show VL G 1000 [kL r2, kL r1] i m2
  obtain ⟨d1, d2⟩ := q2
  have e : r2 = r1 := by rw [b2, d2, hM.2]; rfl
  rw [e]
  refine k_lcmp_same (by decide +kernel) ?_
  refine k_if_eq (off := 750) (tgt := 1751) (rr32 (by omega)) (by decide) (by decide +kernel) (fun _ => ?_) (fun q => absurd rfl q)
  exact nx m2 ((hI.ask b1 d1).le (by omega) (by omega)) L2
set_option maxRecDepth 20000 in
/-- worth -/
theorem lc_21 {G : Cxt} {c i : Int} {μ : Mem} (hc : ScOK G) (hI : Inv c μ) (c0 : 0 ≤ c) (hk : c ≤ 999) (hL : Lk μ) (h0 : 0 ≤ i) (h1 : i + 6 ≤ (scL G : Int)) (nx : ∀ m : Mem, Inv (c + 1) m → Lk m → VL G 1751 [] i m) : VL G 1006 [] i μ := by
  have rv : ∀ j : Int, 0 ≤ j → j < 6 → r32 (scV G (i + j)) := fun j j0 j1 => hc.2 _ (by omega) (by omega)
  refine k_aload_n (i := 1) (v := kR ((0 : Nat) : Int)) (Nat.le_refl 2) rfl (by decide +kernel) ?_
  refine l_arg (j := 1) hc (by omega) (by omega) (by decide +kernel) (by decide +kernel) (by decide +kernel) (by decide +kernel) (by decide +kernel) ?_
  refine k_callV (ci := 10) (z := ((0 : Nat) : Int)) (as := [kI (scV G (i + 1))]) (st := []) ct_X10_worth mmX10_worth vvX10_worth lkL_106 ⟨by decide, by decide⟩ rfl (atO_k la_0 (by omega) (by decide)) ⟨TX10, 14, rfl⟩ ⟨by omega, by omega⟩ (Nat.le_of_ble_eq_true rfl) (by decide +kernel) (nr_mk hL (And.intro (And.intro rfl (And.intro ⟨c, hI.1⟩ ((rv 1 (by omega) (by omega))))) (fun m1 r1 q1 L1 => ?_)))
  show VL G 1015 [kI r1] i m1
  obtain ⟨b1, b2⟩ := q1
  have hM := hI.mid (fun z hz => b1.2 z (Or.inr hz))
  refine k_aload_n (i := 2) (v := kR ((201 : Nat) : Int)) (Nat.le_refl 2) rfl (by decide +kernel) ?_
  refine l_arg (j := 1) hc (by omega) (by omega) (by decide +kernel) (by decide +kernel) (by decide +kernel) (by decide +kernel) (by decide +kernel) ?_
  refine k_callV (ci := 11) (z := ((201 : Nat) : Int)) (as := [kI (scV G (i + 1))]) (st := [kI r1]) ct_X11_worth mmX11_worth vvX11_worth lkL_109 ⟨by decide, by decide⟩ rfl (atO_k la_201 (by omega) (by decide)) ⟨TX11, 52, rfl⟩ ⟨by omega, by omega⟩ (Nat.le_of_ble_eq_true rfl) (by decide +kernel) (nr_mk L1 (And.intro (And.intro rfl (And.intro hM.1 ((rv 1 (by omega) (by omega))))) (fun m2 r2 q2 L2 => ?_)))
  show VL G 1024 [kI r2, kI r1] i m2
  obtain ⟨d1, d2⟩ := q2
  have e : r2 = r1 := by rw [b2, d2, hM.2]; rfl
  rw [e]
  refine k_icmp_same (off := 727) (tgt := 1751) (by decide) (by decide +kernel) ?_
  exact nx m2 ((hI.ask b1 d1).le (by omega) (by omega)) L2
