/-! what the tables and the statics say at the law's start -/
theorem tb_at {args : Array Value} {s : State} (hts : ∀ w ∈ lw_tbl, w.before args s = true) {w : Cond} {i : Nat} (h : tables_1[i]? = some w) : w.before args s = true := hts w (in_tb h)
theorem ok_tb {w : Cond} (h : w ∈ lw_ok) : w ∈ lw_tbl := (List.mem_filter.mp h).1
theorem kn_ex {args : Array Value} {s : State} (hts : ∀ w ∈ lw_tbl, w.before args s = true) : ∀ c : Nat, ∃ p : ClassId × (Nat → Nat), ∀ q : vw_C, vwCl[c]? = some q → u_Kn s q.1 q.2.1 q.2.2 p.1 p.2 := by
  intro c
  match c with
  | 0 =>
    obtain ⟨cC, iS, h⟩ := u_known (C := RX0) (T := TX0) (N := 19) (n := 19) hts (fun w hw => ok_tb (inX0 w hw)) (tb_at hts (i := 266) (by decide +kernel))
    exact ⟨(cC, iS), fun q hq => by cases hq; exact h⟩
  | 1 =>
    obtain ⟨cC, iS, h⟩ := u_known (C := RX1) (T := TX1) (N := 6) (n := 6) hts (fun w hw => ok_tb (inX1 w hw)) (tb_at hts (i := 382) (by decide +kernel))
    exact ⟨(cC, iS), fun q hq => by cases hq; exact h⟩
  | 2 =>
    obtain ⟨cC, iS, h⟩ := u_known (C := RX2) (T := TX2) (N := 11) (n := 11) hts (fun w hw => ok_tb (inX2 w hw)) (tb_at hts (i := 413) (by decide +kernel))
    exact ⟨(cC, iS), fun q hq => by cases hq; exact h⟩
  | 3 =>
    obtain ⟨cC, iS, h⟩ := u_known (C := RX3) (T := TX3) (N := 10) (n := 10) hts (fun w hw => ok_tb (inX3 w hw)) (tb_at hts (i := 338) (by decide +kernel))
    exact ⟨(cC, iS), fun q hq => by cases hq; exact h⟩
  | 4 =>
    obtain ⟨cC, iS, h⟩ := u_known (C := RX4) (T := TX4) (N := 3) (n := 3) hts (fun w hw => ok_tb (inX4 w hw)) (tb_at hts (i := 477) (by decide +kernel))
    exact ⟨(cC, iS), fun q hq => by cases hq; exact h⟩
  | 5 =>
    obtain ⟨cC, iS, h⟩ := u_known (C := RX5) (T := TX5) (N := 6) (n := 6) hts (fun w hw => ok_tb (inX5 w hw)) (tb_at hts (i := 190) (by decide +kernel))
    exact ⟨(cC, iS), fun q hq => by cases hq; exact h⟩
  | 6 =>
    obtain ⟨cC, iS, h⟩ := u_known (C := RX6) (T := TX6) (N := 12) (n := 12) hts (fun w hw => ok_tb (inX6 w hw)) (tb_at hts (i := 218) (by decide +kernel))
    exact ⟨(cC, iS), fun q hq => by cases hq; exact h⟩
  | 7 =>
    obtain ⟨cC, iS, h⟩ := u_known (C := RX7) (T := TX7) (N := 18) (n := 18) hts (fun w hw => ok_tb (inX7 w hw)) (tb_at hts (i := 33) (by decide +kernel))
    exact ⟨(cC, iS), fun q hq => by cases hq; exact h⟩
  | 8 =>
    obtain ⟨cC, iS, h⟩ := u_known (C := RX8) (T := TX8) (N := 4) (n := 4) hts (fun w hw => ok_tb (inX8 w hw)) (tb_at hts (i := 456) (by decide +kernel))
    exact ⟨(cC, iS), fun q hq => by cases hq; exact h⟩
  | 9 =>
    obtain ⟨cC, iS, h⟩ := u_known (C := RX9) (T := TX9) (N := 11) (n := 11) hts (fun w hw => ok_tb (inX9 w hw)) (tb_at hts (i := 26) (by decide +kernel))
    exact ⟨(cC, iS), fun q hq => by cases hq; exact h⟩
  | 10 =>
    obtain ⟨cC, iS, h⟩ := u_known (C := RX10) (T := TX10) (N := 14) (n := 14) hts (fun w hw => ok_tb (inX10 w hw)) (tb_at hts (i := 18) (by decide +kernel))
    exact ⟨(cC, iS), fun q hq => by cases hq; exact h⟩
  | 11 =>
    obtain ⟨cC, iS, h⟩ := u_known (C := RX11) (T := TX11) (N := 52) (n := 52) hts (fun w hw => ok_tb (inX11 w hw)) (tb_at hts (i := 1238) (by decide +kernel))
    exact ⟨(cC, iS), fun q hq => by cases hq; exact h⟩
  | n + 12 => exact ⟨(0, fun _ => 0), fun q hq => by simp at hq⟩
theorem ar_ex {args : Array Value} {s : State} {ty : FieldType} (h : (Cond.arrayClass ty).before args s = true) (hp : ∀ C, ty ≠ .object C) : ∃ cA : ClassId, ArrOfT s cA ty ∧ s.vm.findClass ("[" ++ ty.toString) = some cA := by
  obtain ⟨c, k, comp, h1, h2, h3⟩ := Cond.arrayClass_spec h
  exact ⟨c, fun n z => ⟨fun _ h => (by cases h), k, h2, comp, h3⟩, h1⟩
theorem ao_ex {args : Array Value} {s : State} {C : String} (h : (Cond.arrayOver (.object C)).before args s = true) : ∃ cA : ClassId, ArrOfT s cA (.object C) ∧ va_RA s cA (.object C) := by
  obtain ⟨comp, c, k, h1, h2, h3, h4, h5⟩ := Cond.arrayOver_spec h
  exact ⟨c, fun n z => ⟨fun _ h => (by cases h), k, h3, comp, h4⟩, k, comp, h3, h4, h1, h5⟩
theorem st_ex {s : State} {b : Nat} (hts : ∀ w ∈ lw_tbl, w.before #[Value.ref b] s = true) (hgv : (Jvm.Cond.and given_1 narrow_1).before #[Value.ref b] s = true) : ∀ k : Nat, ∃ t : Nat, k < 8 → va_Z RX10 (SL k).1 (SL k).2.1 (.ref t) (fun q => s.heap.size ≤ q) s s.heap ∧ va_T (ST k) t (SN k) (fun j => .int (Int32.ofInt (SV k j))) (fun q => s.heap.size ≤ q) s s.heap := by
  have hs := flat_of_before _ hgv
  have hA : ∀ a : Nat, a < s.heap.size → ¬ (fun q : Nat => s.heap.size ≤ q) a := fun a h => Nat.not_le.mpr h
  have hin : (Cond.initialized RX10).before #[Value.ref b] s = true := tb_at hts (i := 1) (by decide +kernel)
  intro k
  match k with
  | 0 =>
    obtain ⟨t, h1, h2⟩ := va_Tof (args := #[Value.ref b]) (s := s) (tm := (.static RX10 "FACTORIAL" "[I")) (ty := ST 0) (N := SN 0) (f := fun j => .int (Int32.ofInt (SV 0 j))) (A := fun q => s.heap.size ≤ q) (by decide +kernel) (hs (Cond.arrayOf (.static RX10 "FACTORIAL" "[I") .int) (by decide +kernel)) (va_eqt (hs (Cond.eq (.length (.static RX10 "FACTORIAL" "[I")) (.int (Int32.ofNat 5))) (by decide +kernel))) (fun j hj => by
      have hj : j < 5 := hj
      rcases (show j = 0 ∨ j = 1 ∨ j = 2 ∨ j = 3 ∨ j = 4 by omega) with rfl | rfl | rfl | rfl | rfl
      · exact va_eqt (hs (Cond.eq (.elem (.static RX10 "FACTORIAL" "[I") (.int (Int32.ofNat 0))) (.int (Int32.ofInt (SV 0 ((0 : Nat) : Int))))) (by decide +kernel))
      · exact va_eqt (hs (Cond.eq (.elem (.static RX10 "FACTORIAL" "[I") (.int (Int32.ofNat 1))) (.int (Int32.ofInt (SV 0 ((1 : Nat) : Int))))) (by decide +kernel))
      · exact va_eqt (hs (Cond.eq (.elem (.static RX10 "FACTORIAL" "[I") (.int (Int32.ofNat 2))) (.int (Int32.ofInt (SV 0 ((2 : Nat) : Int))))) (by decide +kernel))
      · exact va_eqt (hs (Cond.eq (.elem (.static RX10 "FACTORIAL" "[I") (.int (Int32.ofNat 3))) (.int (Int32.ofInt (SV 0 ((3 : Nat) : Int))))) (by decide +kernel))
      · exact va_eqt (hs (Cond.eq (.elem (.static RX10 "FACTORIAL" "[I") (.int (Int32.ofNat 4))) (.int (Int32.ofInt (SV 0 ((4 : Nat) : Int))))) (by decide +kernel))) hA
    exact ⟨t, fun _ => ⟨va_Zof (tb_at hts (i := 873) (by decide +kernel)) hin h1 hA, h2⟩⟩
  | 1 =>
    obtain ⟨t, h1, h2⟩ := va_Tof (args := #[Value.ref b]) (s := s) (tm := (.static RX10 "PLACES" "[C")) (ty := ST 1) (N := SN 1) (f := fun j => .int (Int32.ofInt (SV 1 j))) (A := fun q => s.heap.size ≤ q) (by decide +kernel) (hs (Cond.arrayOf (.static RX10 "PLACES" "[C") .char) (by decide +kernel)) (va_eqt (hs (Cond.eq (.length (.static RX10 "PLACES" "[C")) (.int (Int32.ofNat 6))) (by decide +kernel))) (fun j hj => by
      have hj : j < 6 := hj
      rcases (show j = 0 ∨ j = 1 ∨ j = 2 ∨ j = 3 ∨ j = 4 ∨ j = 5 by omega) with rfl | rfl | rfl | rfl | rfl | rfl
      · exact va_eqt (hs (Cond.eq (.elem (.static RX10 "PLACES" "[C") (.int (Int32.ofNat 0))) (.int (Int32.ofInt (SV 1 ((0 : Nat) : Int))))) (by decide +kernel))
      · exact va_eqt (hs (Cond.eq (.elem (.static RX10 "PLACES" "[C") (.int (Int32.ofNat 1))) (.int (Int32.ofInt (SV 1 ((1 : Nat) : Int))))) (by decide +kernel))
      · exact va_eqt (hs (Cond.eq (.elem (.static RX10 "PLACES" "[C") (.int (Int32.ofNat 2))) (.int (Int32.ofInt (SV 1 ((2 : Nat) : Int))))) (by decide +kernel))
      · exact va_eqt (hs (Cond.eq (.elem (.static RX10 "PLACES" "[C") (.int (Int32.ofNat 3))) (.int (Int32.ofInt (SV 1 ((3 : Nat) : Int))))) (by decide +kernel))
      · exact va_eqt (hs (Cond.eq (.elem (.static RX10 "PLACES" "[C") (.int (Int32.ofNat 4))) (.int (Int32.ofInt (SV 1 ((4 : Nat) : Int))))) (by decide +kernel))
      · exact va_eqt (hs (Cond.eq (.elem (.static RX10 "PLACES" "[C") (.int (Int32.ofNat 5))) (.int (Int32.ofInt (SV 1 ((5 : Nat) : Int))))) (by decide +kernel))) hA
    exact ⟨t, fun _ => ⟨va_Zof (tb_at hts (i := 581) (by decide +kernel)) hin h1 hA, h2⟩⟩
  | 2 =>
    obtain ⟨t, h1, h2⟩ := va_Tof (args := #[Value.ref b]) (s := s) (tm := (.static RX10 "LANE" "[C")) (ty := ST 2) (N := SN 2) (f := fun j => .int (Int32.ofInt (SV 2 j))) (A := fun q => s.heap.size ≤ q) (by decide +kernel) (hs (Cond.arrayOf (.static RX10 "LANE" "[C") .char) (by decide +kernel)) (va_eqt (hs (Cond.eq (.length (.static RX10 "LANE" "[C")) (.int (Int32.ofNat 4))) (by decide +kernel))) (fun j hj => by
      have hj : j < 4 := hj
      rcases (show j = 0 ∨ j = 1 ∨ j = 2 ∨ j = 3 by omega) with rfl | rfl | rfl | rfl
      · exact va_eqt (hs (Cond.eq (.elem (.static RX10 "LANE" "[C") (.int (Int32.ofNat 0))) (.int (Int32.ofInt (SV 2 ((0 : Nat) : Int))))) (by decide +kernel))
      · exact va_eqt (hs (Cond.eq (.elem (.static RX10 "LANE" "[C") (.int (Int32.ofNat 1))) (.int (Int32.ofInt (SV 2 ((1 : Nat) : Int))))) (by decide +kernel))
      · exact va_eqt (hs (Cond.eq (.elem (.static RX10 "LANE" "[C") (.int (Int32.ofNat 2))) (.int (Int32.ofInt (SV 2 ((2 : Nat) : Int))))) (by decide +kernel))
      · exact va_eqt (hs (Cond.eq (.elem (.static RX10 "LANE" "[C") (.int (Int32.ofNat 3))) (.int (Int32.ofInt (SV 2 ((3 : Nat) : Int))))) (by decide +kernel))) hA
    exact ⟨t, fun _ => ⟨va_Zof (tb_at hts (i := 586) (by decide +kernel)) hin h1 hA, h2⟩⟩
  | 3 =>
    obtain ⟨t, h1, h2⟩ := va_Tof (args := #[Value.ref b]) (s := s) (tm := (.static RX10 "CHANCE" "[C")) (ty := ST 3) (N := SN 3) (f := fun j => .int (Int32.ofInt (SV 3 j))) (A := fun q => s.heap.size ≤ q) (by decide +kernel) (hs (Cond.arrayOf (.static RX10 "CHANCE" "[C") .char) (by decide +kernel)) (va_eqt (hs (Cond.eq (.length (.static RX10 "CHANCE" "[C")) (.int (Int32.ofNat 6))) (by decide +kernel))) (fun j hj => by
      have hj : j < 6 := hj
      rcases (show j = 0 ∨ j = 1 ∨ j = 2 ∨ j = 3 ∨ j = 4 ∨ j = 5 by omega) with rfl | rfl | rfl | rfl | rfl | rfl
      · exact va_eqt (hs (Cond.eq (.elem (.static RX10 "CHANCE" "[C") (.int (Int32.ofNat 0))) (.int (Int32.ofInt (SV 3 ((0 : Nat) : Int))))) (by decide +kernel))
      · exact va_eqt (hs (Cond.eq (.elem (.static RX10 "CHANCE" "[C") (.int (Int32.ofNat 1))) (.int (Int32.ofInt (SV 3 ((1 : Nat) : Int))))) (by decide +kernel))
      · exact va_eqt (hs (Cond.eq (.elem (.static RX10 "CHANCE" "[C") (.int (Int32.ofNat 2))) (.int (Int32.ofInt (SV 3 ((2 : Nat) : Int))))) (by decide +kernel))
      · exact va_eqt (hs (Cond.eq (.elem (.static RX10 "CHANCE" "[C") (.int (Int32.ofNat 3))) (.int (Int32.ofInt (SV 3 ((3 : Nat) : Int))))) (by decide +kernel))
      · exact va_eqt (hs (Cond.eq (.elem (.static RX10 "CHANCE" "[C") (.int (Int32.ofNat 4))) (.int (Int32.ofInt (SV 3 ((4 : Nat) : Int))))) (by decide +kernel))
      · exact va_eqt (hs (Cond.eq (.elem (.static RX10 "CHANCE" "[C") (.int (Int32.ofNat 5))) (.int (Int32.ofInt (SV 3 ((5 : Nat) : Int))))) (by decide +kernel))) hA
    exact ⟨t, fun _ => ⟨va_Zof (tb_at hts (i := 588) (by decide +kernel)) hin h1 hA, h2⟩⟩
  | 4 =>
    obtain ⟨t, h1, h2⟩ := va_Tof (args := #[Value.ref b]) (s := s) (tm := (.static RX10 "DOG" "[C")) (ty := ST 4) (N := SN 4) (f := fun j => .int (Int32.ofInt (SV 4 j))) (A := fun q => s.heap.size ≤ q) (by decide +kernel) (hs (Cond.arrayOf (.static RX10 "DOG" "[C") .char) (by decide +kernel)) (va_eqt (hs (Cond.eq (.length (.static RX10 "DOG" "[C")) (.int (Int32.ofNat 3))) (by decide +kernel))) (fun j hj => by
      have hj : j < 3 := hj
      rcases (show j = 0 ∨ j = 1 ∨ j = 2 by omega) with rfl | rfl | rfl
      · exact va_eqt (hs (Cond.eq (.elem (.static RX10 "DOG" "[C") (.int (Int32.ofNat 0))) (.int (Int32.ofInt (SV 4 ((0 : Nat) : Int))))) (by decide +kernel))
      · exact va_eqt (hs (Cond.eq (.elem (.static RX10 "DOG" "[C") (.int (Int32.ofNat 1))) (.int (Int32.ofInt (SV 4 ((1 : Nat) : Int))))) (by decide +kernel))
      · exact va_eqt (hs (Cond.eq (.elem (.static RX10 "DOG" "[C") (.int (Int32.ofNat 2))) (.int (Int32.ofInt (SV 4 ((2 : Nat) : Int))))) (by decide +kernel))) hA
    exact ⟨t, fun _ => ⟨va_Zof (tb_at hts (i := 590) (by decide +kernel)) hin h1 hA, h2⟩⟩
  | 5 =>
    obtain ⟨t, h1, h2⟩ := va_Tof (args := #[Value.ref b]) (s := s) (tm := (.static RX10 "DIG" "[C")) (ty := ST 5) (N := SN 5) (f := fun j => .int (Int32.ofInt (SV 5 j))) (A := fun q => s.heap.size ≤ q) (by decide +kernel) (hs (Cond.arrayOf (.static RX10 "DIG" "[C") .char) (by decide +kernel)) (va_eqt (hs (Cond.eq (.length (.static RX10 "DIG" "[C")) (.int (Int32.ofNat 3))) (by decide +kernel))) (fun j hj => by
      have hj : j < 3 := hj
      rcases (show j = 0 ∨ j = 1 ∨ j = 2 by omega) with rfl | rfl | rfl
      · exact va_eqt (hs (Cond.eq (.elem (.static RX10 "DIG" "[C") (.int (Int32.ofNat 0))) (.int (Int32.ofInt (SV 5 ((0 : Nat) : Int))))) (by decide +kernel))
      · exact va_eqt (hs (Cond.eq (.elem (.static RX10 "DIG" "[C") (.int (Int32.ofNat 1))) (.int (Int32.ofInt (SV 5 ((1 : Nat) : Int))))) (by decide +kernel))
      · exact va_eqt (hs (Cond.eq (.elem (.static RX10 "DIG" "[C") (.int (Int32.ofNat 2))) (.int (Int32.ofInt (SV 5 ((2 : Nat) : Int))))) (by decide +kernel))) hA
    exact ⟨t, fun _ => ⟨va_Zof (tb_at hts (i := 592) (by decide +kernel)) hin h1 hA, h2⟩⟩
  | 6 =>
    obtain ⟨t, h1, h2⟩ := va_Tof (args := #[Value.ref b]) (s := s) (tm := (.static RX10 "PRIZE" "[C")) (ty := ST 6) (N := SN 6) (f := fun j => .int (Int32.ofInt (SV 6 j))) (A := fun q => s.heap.size ≤ q) (by decide +kernel) (hs (Cond.arrayOf (.static RX10 "PRIZE" "[C") .char) (by decide +kernel)) (va_eqt (hs (Cond.eq (.length (.static RX10 "PRIZE" "[C")) (.int (Int32.ofNat 5))) (by decide +kernel))) (fun j hj => by
      have hj : j < 5 := hj
      rcases (show j = 0 ∨ j = 1 ∨ j = 2 ∨ j = 3 ∨ j = 4 by omega) with rfl | rfl | rfl | rfl | rfl
      · exact va_eqt (hs (Cond.eq (.elem (.static RX10 "PRIZE" "[C") (.int (Int32.ofNat 0))) (.int (Int32.ofInt (SV 6 ((0 : Nat) : Int))))) (by decide +kernel))
      · exact va_eqt (hs (Cond.eq (.elem (.static RX10 "PRIZE" "[C") (.int (Int32.ofNat 1))) (.int (Int32.ofInt (SV 6 ((1 : Nat) : Int))))) (by decide +kernel))
      · exact va_eqt (hs (Cond.eq (.elem (.static RX10 "PRIZE" "[C") (.int (Int32.ofNat 2))) (.int (Int32.ofInt (SV 6 ((2 : Nat) : Int))))) (by decide +kernel))
      · exact va_eqt (hs (Cond.eq (.elem (.static RX10 "PRIZE" "[C") (.int (Int32.ofNat 3))) (.int (Int32.ofInt (SV 6 ((3 : Nat) : Int))))) (by decide +kernel))
      · exact va_eqt (hs (Cond.eq (.elem (.static RX10 "PRIZE" "[C") (.int (Int32.ofNat 4))) (.int (Int32.ofInt (SV 6 ((4 : Nat) : Int))))) (by decide +kernel))) hA
    exact ⟨t, fun _ => ⟨va_Zof (tb_at hts (i := 594) (by decide +kernel)) hin h1 hA, h2⟩⟩
  | 7 =>
    obtain ⟨t, h1, h2⟩ := va_Tof (args := #[Value.ref b]) (s := s) (tm := (.static RX10 "MOVE" "[C")) (ty := ST 7) (N := SN 7) (f := fun j => .int (Int32.ofInt (SV 7 j))) (A := fun q => s.heap.size ≤ q) (by decide +kernel) (hs (Cond.arrayOf (.static RX10 "MOVE" "[C") .char) (by decide +kernel)) (va_eqt (hs (Cond.eq (.length (.static RX10 "MOVE" "[C")) (.int (Int32.ofNat 4))) (by decide +kernel))) (fun j hj => by
      have hj : j < 4 := hj
      rcases (show j = 0 ∨ j = 1 ∨ j = 2 ∨ j = 3 by omega) with rfl | rfl | rfl | rfl
      · exact va_eqt (hs (Cond.eq (.elem (.static RX10 "MOVE" "[C") (.int (Int32.ofNat 0))) (.int (Int32.ofInt (SV 7 ((0 : Nat) : Int))))) (by decide +kernel))
      · exact va_eqt (hs (Cond.eq (.elem (.static RX10 "MOVE" "[C") (.int (Int32.ofNat 1))) (.int (Int32.ofInt (SV 7 ((1 : Nat) : Int))))) (by decide +kernel))
      · exact va_eqt (hs (Cond.eq (.elem (.static RX10 "MOVE" "[C") (.int (Int32.ofNat 2))) (.int (Int32.ofInt (SV 7 ((2 : Nat) : Int))))) (by decide +kernel))
      · exact va_eqt (hs (Cond.eq (.elem (.static RX10 "MOVE" "[C") (.int (Int32.ofNat 3))) (.int (Int32.ofInt (SV 7 ((3 : Nat) : Int))))) (by decide +kernel))) hA
    exact ⟨t, fun _ => ⟨va_Zof (tb_at hts (i := 596) (by decide +kernel)) hin h1 hA, h2⟩⟩
  | n + 8 => exact ⟨0, fun h => absurd h (by omega)⟩
theorem xs_int (x : Int32) : ((((x.toInt + 2147483648).toNat : Nat) : Int) - 2147483648) = x.toInt := by
  have h := n_rng x
  unfold r32 at h
  omega
/-- the law's context, from its start -/
theorem cx_ex {s : State} {b L : Nat} {xs : Nat → Int32} (hL : L ≤ 3072) (hts : ∀ w ∈ lw_tbl, w.before #[Value.ref b] s = true) (hgv : (Jvm.Cond.and given_1 narrow_1).before #[Value.ref b] s = true) (hX0 : va_X b L xs s s.heap) (hbl : b < s.heap.size) : ∃ G : Cxt, b0 G = s.heap.size ∧ G.2.2.2.2 8 = b ∧ ScOK G ∧ hT G s ∧ hS G s s.heap := by
  obtain ⟨pc, hpc⟩ := Classical.axiomOfChoice (kn_ex hts)
  obtain ⟨t, ht⟩ := Classical.axiomOfChoice (st_ex hts hgv)
  obtain ⟨c0, a0, f0⟩ := ar_ex (ty := .int) (tb_at hts (i := 141) (by decide +kernel)) (fun _ => by simp)
  obtain ⟨c1, a1, f1⟩ := ar_ex (ty := .long) (tb_at hts (i := 336) (by decide +kernel)) (fun _ => by simp)
  obtain ⟨c2, a2, f2⟩ := ar_ex (ty := .byte) (tb_at hts (i := 140) (by decide +kernel)) (fun _ => by simp)
  obtain ⟨c3, a3, f3⟩ := ar_ex (ty := .boolean) (tb_at hts (i := 216) (by decide +kernel)) (fun _ => by simp)
  have w4 : (Cond.arrayOver (.object RX7)).before #[Value.ref b] s = true := tb_at hts (i := 32) (by decide +kernel)
  have w5 : (Cond.arrayOver (.object RX9)).before #[Value.ref b] s = true := tb_at hts (i := 186) (by decide +kernel)
  obtain ⟨c4, a4, f4⟩ := ao_ex w4
  obtain ⟨c5, a5, f5⟩ := ao_ex w5
  obtain ⟨S, hS8, hS9, hS10, hS0⟩ : ∃ S : Nat → Nat, S 8 = b ∧ S 9 = L ∧ (∀ j : Nat, S (10 + j) = ((xs j).toInt + 2147483648).toNat) ∧ ∀ k : Nat, k < 8 → S k = t k := by
    refine ⟨fun k => if k < 8 then t k else if k = 8 then b else if k = 9 then L else ((xs (k - 10)).toInt + 2147483648).toNat, rfl, rfl, fun j => ?_, fun k hk => if_pos hk⟩
    show (if 10 + j < 8 then t (10 + j) else if 10 + j = 8 then b else if 10 + j = 9 then L else ((xs (10 + j - 10)).toInt + 2147483648).toNat) = _
    rw [if_neg (by omega), if_neg (by omega), if_neg (by omega), show 10 + j - 10 = j by omega]
  obtain ⟨A, hA0, hA1, hA2, hA3, hA4, hA5⟩ : ∃ A : Nat → ClassId, A 0 = c0 ∧ A 1 = c1 ∧ A 2 = c2 ∧ A 3 = c3 ∧ A 4 = c4 ∧ A 5 = c5 :=
    ⟨fun k => if k = 0 then c0 else if k = 1 then c1 else if k = 2 then c2 else if k = 3 then c3 else if k = 4 then c4 else c5, rfl, rfl, rfl, rfl, rfl, rfl⟩
  obtain ⟨G, hG⟩ : ∃ G : Cxt, G = (fun c => (pc c).1, fun c => (pc c).2, A, s.heap.size, S) := ⟨_, rfl⟩
  have gS : G.2.2.2.2 = S := by rw [hG]
  have gA : G.2.2.1 = A := by rw [hG]
  have gb : b0 G = s.heap.size := by rw [hG]
  have gD : DG G = (fun c => (pc c).1, fun c => (pc c).2) := by rw [hG]
  have hv : ∀ j : Nat, scV G (j : Int) = (xs j).toInt := fun j => by
    unfold scV
    rw [gS, show ((j : Int).toNat) = j from rfl, hS10 j]
    exact xs_int (xs j)
  have hl : scL G = L := by unfold scL; rw [gS]; exact hS9
  refine ⟨G, gb, by rw [gS]; exact hS8, ⟨by rw [hl]; exact hL, fun j j0 j1 => ?_⟩, ⟨⟨fun c q hq => ?_, fun k q hq => ?_⟩, fun w hw hn => ?_, w4, w5⟩, fun k hk => ?_, ?_⟩
  · have e := hv j.toNat
    rw [Int.toNat_of_nonneg j0] at e
    rw [e]
    exact n_rng _
  · rw [gD]
    exact hpc c q hq
  · have e : tysG G = [(c0, .int), (c1, .long), (c2, .byte), (c3, .boolean), (c4, .object RX7), (c5, .object RX9)] := by
      unfold tysG
      rw [gA, hA0, hA1, hA2, hA3, hA4, hA5]
    rw [e] at hq
    match k, hq with
    | 0, hq => cases hq; exact ⟨a0, f0⟩
    | 1, hq => cases hq; exact ⟨a1, f1⟩
    | 2, hq => cases hq; exact ⟨a2, f2⟩
    | 3, hq => cases hq; exact ⟨a3, f3⟩
    | 4, hq => cases hq; exact ⟨a4, f4⟩
    | 5, hq => cases hq; exact ⟨a5, f5⟩
    | n + 6, hq => simp at hq
  · refine va_Nw.of ?_ (hts w hw)
    cases w with
    | fieldLinkNest a i b n d h => rfl
    | methodLinkNest a i x h => rfl
    | _ => exact absurd hn (by simp [isNest])
  · have q := ht k hk
    have ea : AG G = fun q => s.heap.size ≤ q := by
      funext z
      show (b0 G ≤ z) = _
      rw [gb]
    rw [gS, hS0 k hk, ea]
    exact q
  · obtain ⟨scr, h1, h2, h3, h4, h5⟩ := hX0
    unfold hX
    rw [gS, hS8, hl]
    refine ⟨scr, h1, h2, h3, by omega, by rw [h4], fun j hj => ?_, fun q => ?_⟩
    · refine (h5 j hj).trans ?_
      show some (Value.int (xs j)) = some (Value.int (Int32.ofInt (scV G (j : Int))))
      rw [hv j, n_self]
    · have q : b0 G ≤ b := q
      rw [gb] at q
      omega
theorem w_room {p : Program} {l : Launch} {e : Env} {R R' : Room} {s : State} {m : MethodId} {args : Array Value} {below : List Frame} {meth : Method} {c : Code} {H : Heap} {locs : List Loc} {cells slots : Nat} {Q Q' : State → Prop} {g : JFrame} (h1 : R'.frames = R.frames) (h2 : R'.locals = R.locals) (h3 : R'.cells ≤ R.cells) (h4 : R'.slots ≤ R.slots) (hQ : ∀ t : State, Q t → Q' t) (k : W p l e R' s m args below meth c H locs cells slots Q g) : W p l e R s m args below meth c H locs cells slots Q' g := by
  intro T hT X
  have hr : s.hasRoom e.platform R' = true := by
    have h := X.room
    simp only [State.hasRoom, Bool.and_eq_true, decide_eq_true_eq] at h ⊢
    rw [h1, h2]
    exact ⟨⟨⟨h.1.1.1, by have := h.1.1.2; omega⟩, by have := h.1.2; omega⟩, h.2⟩
  obtain ⟨t, a, b⟩ := k T hT ⟨X.admits, X.cas, X.clock, X.frames, hr, X.hears, X.method, X.code, X.here, X.tail, X.warmed, X.limits, X.bytes, X.same⟩
  exact ⟨t, a, hQ t b⟩
