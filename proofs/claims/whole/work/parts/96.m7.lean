/-! sets of numbers of a list against sets of places -/
def exS (s t : Int) : Int := bitsV (fun a => hasB s a && hasB t (cntB s a)) 8
def plF (s fm : Int) : Int := if fm = 7 then 0 else mthV s fm
theorem ex_bd {s t : Int} : 0 ≤ exS s t ∧ exS s t < 256 := by
  have := bitsV_bd (p := fun a => hasB s a && hasB t (cntB s a)) (n := 8) (by omega)
  exact this
theorem ex_has {s t a : Int} (a0 : 0 ≤ a) : hasB (exS s t) a = (decide (a < 8) && (hasB s a && hasB t (cntB s a))) := bitsV_has (by omega) a a0
theorem ex_mth {s t k : Int} (k0 : 0 ≤ k) (k1 : k < popc s) : hasB (exS s t) (mthV s k) = hasB t k := by
  have h := mth_in k0 k1
  rw [ex_has h.1.1, decide_eq_true h.1.2, h.2, mth_cnt k0 k1, Bool.true_and, Bool.true_and]
theorem ex_hasp {s t a : Int} (a0 : 0 ≤ a) (h : hasB (exS s t) a = true) : a < 8 ∧ hasB s a = true ∧ hasB t (cntB s a) = true := by
  rw [ex_has a0, Bool.and_eq_true, Bool.and_eq_true] at h
  exact ⟨of_decide_eq_true h.1, h.2.1, h.2.2⟩
theorem ex_sub {s t : Int} : subS (exS s t) s := fun a a0 _ h => (ex_hasp a0 h).2.1
theorem ex_0 {s : Int} : exS s 0 = 0 := set_0 ex_bd.1 ex_bd.2 fun a a0 a1 => by rw [ex_has a0, has_0, Bool.and_false, Bool.and_false]
theorem ex_rem {s t k : Int} (k0 : 0 ≤ k) (k1 : k < popc s) : exS s (remS t k) = remS (exS s t) (mthV s k) := by
  have h := mth_in k0 k1
  have b := ex_bd (s := s) (t := t)
  have r := rem_bd (s := exS s t) (a := mthV s k) b.1
  refine set_ext ex_bd.1 ex_bd.2 r.1 (by omega) fun a a0 a1 => ?_
  have cb := cntB_bd (s := s) (c := a) a0
  rw [ex_has a0, has_rem h.1.1 a0, ex_has a0, has_rem k0 cb.1]
  by_cases c : hasB s a = true
  · rw [c, decide_eq_true a1, Bool.true_and, Bool.true_and, Bool.true_and, Bool.true_and]
    congr 1
    by_cases e : a = mthV s k
    · rw [e, mth_cnt k0 k1, decide_eq_false (fun q => q rfl), decide_eq_false (fun q => q rfl)]
    · rw [decide_eq_true e, decide_eq_true]
      intro q
      apply e
      rw [← q, mth_at a0 a1 c]
  · have c' : hasB s a = false := by simpa using c
    rw [c', Bool.false_and, Bool.false_and, Bool.and_false, Bool.false_and]
theorem pw2_le {c : Int} (h : 0 ≤ c) (h8 : c ≤ 8) : 1 ≤ ((2 ^ c.toNat : Nat) : Int) ∧ ((2 ^ c.toNat : Nat) : Int) ≤ 256 := by
  have p2 : (2 ^ c.toNat : Nat) ≤ 2 ^ 8 := Nat.pow_le_pow_right (by omega) (by omega)
  have p1 : 0 < (2 ^ c.toNat : Nat) := Nat.two_pow_pos _
  omega
theorem pw2_7 {c : Int} (h : 0 ≤ c) (h7 : c ≤ 7) : ((2 ^ c.toNat : Nat) : Int) ≤ 128 := by
  have p2 : (2 ^ c.toNat : Nat) ≤ 2 ^ 7 := Nat.pow_le_pow_right (by omega) (by omega)
  omega
theorem has_hi {t c j : Int} (t0 : 0 ≤ t) (t1 : t < ((2 ^ c.toNat : Nat) : Int)) (c0 : 0 ≤ c) (h : c ≤ j) : hasB t j = false := by
  unfold hasB
  refine Nat.testBit_lt_two_pow (Nat.lt_of_lt_of_le (show t.toNat < 2 ^ c.toNat by omega) (Nat.pow_le_pow_right (by omega) (by omega)))
theorem has_all {c j : Int} (c0 : 0 ≤ c) (j0 : 0 ≤ j) : hasB (((2 ^ c.toNat : Nat) : Int) - 1) j = decide (j < c) := by
  unfold hasB
  have e : (((2 ^ c.toNat : Nat) : Int) - 1).toNat = 2 ^ c.toNat - 1 := by omega
  rw [e, Nat.testBit_two_pow_sub_one]
  by_cases h : j < c
  · rw [decide_eq_true h, decide_eq_true (show j.toNat < c.toNat by omega)]
  · rw [decide_eq_false h, decide_eq_false (show ¬ j.toNat < c.toNat by omega)]
theorem ex_all {s : Int} (s0 : 0 ≤ s) (s1 : s < 256) : exS s (((2 ^ (popc s).toNat : Nat) : Int) - 1) = s := by
  refine set_ext ex_bd.1 ex_bd.2 s0 s1 fun a a0 a1 => ?_
  have cb := cntB_bd (s := s) (c := a) a0
  rw [ex_has a0, decide_eq_true a1, Bool.true_and]
  by_cases c : hasB s a = true
  · have := cnt_lt_pop a0 a1 c
    rw [c, has_all (by omega) cb.1, decide_eq_true this.2]; rfl
  · have c' : hasB s a = false := by simpa using c
    rw [c', Bool.false_and]
theorem ex_dif {s t : Int} (s0 : 0 ≤ s) (s1 : s < 256) : exS s (difS (((2 ^ (popc s).toNat : Nat) : Int) - 1) t) = difS s (exS s t) := by
  have d := difS_bd (g := s) (s := exS s t) s0
  refine set_ext ex_bd.1 ex_bd.2 d.1 (by omega) fun a a0 a1 => ?_
  have cb := cntB_bd (s := s) (c := a) a0
  rw [ex_has a0, difS_has, difS_has, ex_has a0, decide_eq_true a1]
  by_cases c : hasB s a = true
  · have := cnt_lt_pop a0 a1 c
    rw [c, has_all (by omega) cb.1, decide_eq_true this.2]
    cases hasB t (cntB s a) <;> rfl
  · have c' : hasB s a = false := by simpa using c
    rw [c']; rfl
theorem lt_tb {x y i : Nat} (hx : x.testBit i = false) (hy : y.testBit i = true) (h : ∀ j, i < j → x.testBit j = y.testBit j) : x < y := by
  have e : x / 2 ^ (i + 1) = y / 2 ^ (i + 1) := by
    apply Nat.eq_of_testBit_eq
    intro j
    rw [Nat.testBit_div_two_pow, Nat.testBit_div_two_pow]
    exact h _ (by omega)
  rw [Nat.testBit_eq_decide_div_mod_eq] at hx hy
  have hx' : ¬ x / 2 ^ i % 2 = 1 := of_decide_eq_false hx
  have hy' := of_decide_eq_true hy
  rw [Nat.pow_succ, ← Nat.div_div_eq_div_mul, ← Nat.div_div_eq_div_mul] at e
  refine Classical.byContradiction fun q => ?_
  have := Nat.div_le_div_right (c := 2 ^ i) (show y ≤ x by omega)
  omega
/-- the highest place at which two sets differ -/
theorem high_dif {t t' : Int} (t0 : 0 ≤ t) (h : t < t') : ∀ m : Int, 0 ≤ m → (∀ j : Int, m ≤ j → hasB t j = hasB t' j) → ∃ i : Int, (0 ≤ i ∧ i < m) ∧ hasB t i = false ∧ hasB t' i = true ∧ ∀ j : Int, i < j → hasB t j = hasB t' j := by
  refine nat_ind (P := fun m => (∀ j : Int, m ≤ j → hasB t j = hasB t' j) → ∃ i : Int, (0 ≤ i ∧ i < m) ∧ hasB t i = false ∧ hasB t' i = true ∧ ∀ j : Int, i < j → hasB t j = hasB t' j) (fun hj => ?_) (fun m m0 ih hj => ?_)
  · exfalso
    have : t.toNat = t'.toNat := by
      apply Nat.eq_of_testBit_eq
      intro j
      have := hj (j : Int) (by omega)
      unfold hasB at this
      rwa [Int.toNat_natCast] at this
    omega
  · by_cases e : hasB t m = hasB t' m
    · obtain ⟨i, hi, h1, h2, h3⟩ := ih (fun j hj' => by
        by_cases q : j = m
        · rw [q]; exact e
        · exact hj j (by omega))
      exact ⟨i, by omega, h1, h2, h3⟩
    · by_cases c : hasB t m = true
      · exfalso
        have c' : hasB t' m = false := by
          cases hh : hasB t' m with
          | false => rfl
          | true => exact absurd (by rw [c, hh]) e
        have : t'.toNat < t.toNat := by
          refine lt_tb (i := m.toNat) c' c (fun j hj' => ?_)
          have := hj (j : Int) (by omega)
          unfold hasB at this
          rw [Int.toNat_natCast] at this
          exact this.symm
        omega
      · have c1 : hasB t m = false := by simpa using c
        have c2 : hasB t' m = true := by
          cases hh : hasB t' m with
          | true => rfl
          | false => exact absurd (by rw [c1, hh]) e
        exact ⟨m, by omega, c1, c2, fun j hj' => hj j (by omega)⟩
theorem ex_mono {s t t' : Int} (t0 : 0 ≤ t) (h : t < t') (h' : t' < ((2 ^ (popc s).toNat : Nat) : Int)) : exS s t < exS s t' := by
  have pb := popc_bd (s := s)
  obtain ⟨i, hi, h1, h2, h3⟩ := high_dif t0 h (popc s) pb.1 (fun j hj => by rw [has_hi t0 (by omega) pb.1 hj, has_hi (by omega) h' pb.1 hj])
  have hm := mth_in (s := s) hi.1 hi.2
  have b := ex_bd (s := s) (t := t)
  have b' := ex_bd (s := s) (t := t')
  have : (exS s t).toNat < (exS s t').toNat := by
    refine lt_tb (i := (mthV s i).toNat) ?_ ?_ (fun j hj => ?_)
    · have := ex_mth (s := s) (t := t) hi.1 hi.2
      rw [h1] at this
      exact this
    · have := ex_mth (s := s) (t := t') hi.1 hi.2
      rw [h2] at this
      exact this
    · have e : ∀ u : Int, (exS s u).toNat.testBit j = hasB (exS s u) (j : Int) := fun u => by unfold hasB; rw [Int.toNat_natCast]
      rw [e, e, ex_has (by omega), ex_has (by omega)]
      by_cases c8 : (j : Int) < 8
      · by_cases c : hasB s (j : Int) = true
        · have cj := cnt_lt_pop (s := s) (a := (j : Int)) (by omega) c8 c
          have : i < cntB s (j : Int) := by
            have m := cntB_mono (s := s) (a := mthV s i + 1) (b := (j : Int)) (by omega) (by omega)
            have cs := cntB_s (s := s) (c := mthV s i) hm.1.1
            rw [hm.2, if_pos rfl, mth_cnt hi.1 hi.2] at cs
            omega
          rw [h3 _ this]
        · have c' : hasB s (j : Int) = false := by simpa using c
          rw [c']; rfl
      · rw [decide_eq_false c8]; rfl
  omega
/-- back from places to numbers -/
def coS (s b : Int) : Int := bitsV (fun k => hasB b (mthV s k)) (popc s)
theorem co_bd {s b : Int} : 0 ≤ coS s b ∧ coS s b < ((2 ^ (popc s).toNat : Nat) : Int) := bitsV_bd popc_bd.1
theorem co_ex {s b : Int} (b0 : 0 ≤ b) (b1 : b < 256) (h : subS b s) : exS s (coS s b) = b := by
  refine set_ext ex_bd.1 ex_bd.2 b0 b1 fun a a0 a1 => ?_
  have cb := cntB_bd (s := s) (c := a) a0
  rw [ex_has a0, decide_eq_true a1, Bool.true_and]
  by_cases c : hasB s a = true
  · have := cnt_lt_pop a0 a1 c
    unfold coS
    rw [c, bitsV_has popc_bd.1 _ cb.1, decide_eq_true this.2, mth_at a0 a1 c]
    rfl
  · have c' : hasB s a = false := by simpa using c
    rw [c', Bool.false_and]
    by_cases q : hasB b a = true
    · exact absurd (h a a0 a1 q) c
    · simpa using q
/-- the least of a list, and the least of a set -/
theorem lst_min {s : Int} {q : Int → Bool} {g : Int → Int} : ∀ c : Int, 0 ≤ c → c ≤ 8 → (mnF (fun k => q (mthV s k)) (fun k => g (mthV s k)) (cntB s c)).1 = (mnF (fun a => hasB s a && q a) g c).1 ∧ (((mnF (fun k => q (mthV s k)) (fun k => g (mthV s k)) (cntB s c)).2 = -1 ∧ (mnF (fun a => hasB s a && q a) g c).2 = -1) ∨ ((0 ≤ (mnF (fun k => q (mthV s k)) (fun k => g (mthV s k)) (cntB s c)).2 ∧ (mnF (fun k => q (mthV s k)) (fun k => g (mthV s k)) (cntB s c)).2 < cntB s c) ∧ (mnF (fun a => hasB s a && q a) g c).2 = mthV s (mnF (fun k => q (mthV s k)) (fun k => g (mthV s k)) (cntB s c)).2)) := by
  refine nat_ind (P := fun c => c ≤ 8 → _) (fun _ => ⟨rfl, Or.inl ⟨rfl, rfl⟩⟩) (fun c c0 ih hc => ?_)
  obtain ⟨h1, h2⟩ := ih (by omega)
  have b := cntB_bd (s := s) (c := c) c0
  rw [cntB_s c0, mnF_s c0]
  by_cases h : hasB s c = true
  · have hm := mth_at c0 (by omega) h
    have e2 : (mnF (fun k => q (mthV s k)) (fun k => g (mthV s k)) (cntB s c)).2 < 0 ↔ (mnF (fun a => hasB s a && q a) g c).2 < 0 := by
      rcases h2 with ⟨x, y⟩ | ⟨x, y⟩
      · rw [x, y]
      · have := (mth_in (s := s) x.1 (by have := cntB_mono (s := s) (a := c) (b := 8) c0 (by omega); have e : popc s = cntB s 8 := rfl; omega)).1.1
        omega
    rw [if_pos h, mnF_s b.1, hm, h, Bool.true_and]
    by_cases cc : q c = true ∧ ((mnF (fun a => hasB s a && q a) g c).2 < 0 ∨ g c < (mnF (fun a => hasB s a && q a) g c).1)
    · rw [if_pos cc, if_pos (by rw [e2, h1]; exact cc)]
      exact ⟨rfl, Or.inr ⟨by show 0 ≤ cntB s c ∧ cntB s c < cntB s c + 1; omega, hm.symm⟩⟩
    · rw [if_neg cc, if_neg (by rw [e2, h1]; exact cc)]
      refine ⟨h1, ?_⟩
      rcases h2 with h2 | ⟨x, y⟩
      · exact Or.inl h2
      · exact Or.inr ⟨by omega, y⟩
  · have c' : hasB s c = false := by simpa using h
    rw [if_neg h, Int.add_zero, if_neg (by rw [c']; simp)]
    exact ⟨h1, h2⟩
theorem lst_min8 {s : Int} {q : Int → Bool} {g : Int → Int} : (mnF (fun k => q (mthV s k)) (fun k => g (mthV s k)) (popc s)).1 = (mnF (fun a => hasB s a && q a) g 8).1 ∧ (((mnF (fun k => q (mthV s k)) (fun k => g (mthV s k)) (popc s)).2 = -1 ∧ (mnF (fun a => hasB s a && q a) g 8).2 = -1) ∨ ((0 ≤ (mnF (fun k => q (mthV s k)) (fun k => g (mthV s k)) (popc s)).2 ∧ (mnF (fun k => q (mthV s k)) (fun k => g (mthV s k)) (popc s)).2 < popc s) ∧ (mnF (fun a => hasB s a && q a) g 8).2 = mthV s (mnF (fun k => q (mthV s k)) (fun k => g (mthV s k)) (popc s)).2)) := lst_min 8 (by omega) (by omega)
theorem mnF_tail {q : Int → Bool} {f : Int → Int} {n m : Int} (n0 : 0 ≤ n) (nm : n ≤ m) (h : ∀ i : Int, n ≤ i → i < m → q i = false) : mnF q f m = mnF q f n := by
  refine up_ind (P := fun i => mnF q f i = mnF q f n → mnF q f m = mnF q f n) (lo := n) (hi := m) (fun i i0 i1 ih e => ih ?_) (fun e => e) n (Int.le_refl n) nm rfl
  rw [mnF_s (by omega), h i i0 i1, if_neg (fun c => absurd c.1 (by decide)), e]
/-- one step of the routes, by the list -/
theorem rc_lst {W : Int → Int → Int} {r : Int → Int} {n s t fm : Int} (hn : 0 ≤ n) (hn8 : n ≤ 8) (hs : ∀ a : Int, 0 ≤ a → a < 8 → hasB s a = true → a < n) (t0 : 0 ≤ t) (tn : t ≠ 0) (t1 : t < ((2 ^ (popc s).toNat : Nat) : Int)) :
    (mnF (hasB t) (fun k => W fm (mthV s k) * r (exS s t) + rcV W r n (mthV s k) (exS s (remS t k))) (popc s)).1 = rcV W r n fm (exS s t) ∧
    (0 ≤ (mnF (hasB t) (fun k => W fm (mthV s k) * r (exS s t) + rcV W r n (mthV s k) (exS s (remS t k))) (popc s)).2 ∧ (mnF (hasB t) (fun k => W fm (mthV s k) * r (exS s t) + rcV W r n (mthV s k) (exS s (remS t k))) (popc s)).2 < popc s) ∧
    (rcS W r n (rcV W r n) fm (exS s t)).2 = mthV s (mnF (hasB t) (fun k => W fm (mthV s k) * r (exS s t) + rcV W r n (mthV s k) (exS s (remS t k))) (popc s)).2 := by
  have pb := popc_bd (s := s)
  have eb := ex_bd (s := s) (t := t)
  have ene : exS s t ≠ 0 := by
    have := ex_mono (s := s) (t := 0) (t' := t) (by omega) (by omega) t1
    rw [ex_0] at this
    omega
  have eM : mnF (hasB t) (fun k => W fm (mthV s k) * r (exS s t) + rcV W r n (mthV s k) (exS s (remS t k))) (popc s) = mnF (fun k => (fun a => hasB t (cntB s a)) (mthV s k)) (fun k => (fun a => W fm a * r (exS s t) + rcV W r n a (remS (exS s t) a)) (mthV s k)) (popc s) :=
    mnF_congr pb.1 (fun k k0 k1 => by show hasB t k = hasB t (cntB s (mthV s k)); rw [mth_cnt k0 k1]) (fun k k0 k1 _ => by show _ = W fm (mthV s k) * r (exS s t) + rcV W r n (mthV s k) (remS (exS s t) (mthV s k)); rw [ex_rem k0 k1])
  have e8 : mnF (fun a => hasB s a && (fun a => hasB t (cntB s a)) a) (fun a => W fm a * r (exS s t) + rcV W r n a (remS (exS s t) a)) 8 = rcS W r n (rcV W r n) fm (exS s t) := by
    unfold rcS
    rw [if_neg ene]
    have h1 : mnF (fun a => hasB s a && (fun a => hasB t (cntB s a)) a) (fun a => W fm a * r (exS s t) + rcV W r n a (remS (exS s t) a)) 8 = mnF (hasB (exS s t)) (fun to => W fm to * r (exS s t) + rcV W r n to (remS (exS s t) to)) 8 :=
      mnF_congr (by omega) (fun a a0 a1 => by rw [ex_has a0, decide_eq_true a1, Bool.true_and]) (fun _ _ _ _ => rfl)
    rw [h1]
    exact mnF_tail hn hn8 fun a a0 a1 => by
      by_cases q : hasB (exS s t) a = true
      · exact absurd (hs a (by omega) a1 (ex_hasp (by omega) q).2.1) (by omega)
      · simpa using q
  have key := lst_min8 (s := s) (q := fun a => hasB t (cntB s a)) (g := fun a => W fm a * r (exS s t) + rcV W r n a (remS (exS s t) a))
  rw [← eM, e8] at key
  have inn := rcS_in (W := W) (r := r) (n := n) (fm := fm) (s := exS s t) hn (by omega) eb.2 (fun a a0 a1 h => hs a a0 a1 (ex_hasp a0 h).2.1)
  refine ⟨by rw [key.1, ← rcV_eq hn eb.1], ?_⟩
  rcases key.2 with ⟨_, y⟩ | ⟨x, y⟩
  · omega
  · exact ⟨x, y⟩
theorem co_of {s t : Int} (t0 : 0 ≤ t) (t1 : t < ((2 ^ (popc s).toNat : Nat) : Int)) : coS s (exS s t) = t := by
  have pb := popc_bd (s := s)
  have p8 := pw2_le pb.1 pb.2
  have cb := co_bd (s := s) (b := exS s t)
  refine set_ext cb.1 (by omega) t0 (by omega) fun k k0 k1 => ?_
  unfold coS
  rw [bitsV_has pb.1 k k0]
  by_cases c : k < popc s
  · rw [decide_eq_true c, Bool.true_and]
    exact ex_mth k0 c
  · rw [decide_eq_false c, Bool.false_and]
    exact (has_hi t0 t1 pb.1 (by omega)).symm
/-- routes hang on what is told of the goal's sets alone -/
theorem rcN_sub {W W' : Int → Int → Int} {r r' : Int → Int} {n g : Int} (hn : 0 ≤ n) (hW : ∀ a b : Int, 0 ≤ a → a < n → 0 ≤ b → b < n → W a b = W' a b) (hr : ∀ s : Int, 0 ≤ s → s < 256 → subS s g → r s = r' s) : ∀ (k : Nat) (fm s : Int), 0 ≤ fm → fm < n → 0 ≤ s → s < 256 → subS s g → rcN W r n k fm s = rcN W' r' n k fm s
  | 0, _, _, _, _, _, _, _ => rfl
  | k + 1, fm, s, f0, f1, s0, s1, hs => by
    show (rcS W r n (rcN W r n k) fm s).1 = (rcS W' r' n (rcN W' r' n k) fm s).1
    unfold rcS
    by_cases h0 : s = 0
    · rw [if_pos h0, if_pos h0]
    · rw [if_neg h0, if_neg h0]
      refine congrArg Prod.fst (mnF_congr hn (fun _ _ _ => rfl) (fun b b0 b1 hb => ?_))
      have h := rem_bd (s := s) (a := b) s0
      rw [hW fm b f0 f1 b0 b1, hr s s0 s1 hs, rcN_sub hn hW hr k b (remS s b) b0 b1 h.1 (by omega) (sub_rem hs b0)]
theorem rcV_sub {W W' : Int → Int → Int} {r r' : Int → Int} {n g : Int} (hn : 0 ≤ n) (hW : ∀ a b : Int, 0 ≤ a → a < n → 0 ≤ b → b < n → W a b = W' a b) (hr : ∀ s : Int, 0 ≤ s → s < 256 → subS s g → r s = r' s) {fm s : Int} (f0 : 0 ≤ fm) (f1 : fm < n) (s0 : 0 ≤ s) (s1 : s < 256) (hs : subS s g) : rcV W r n fm s = rcV W' r' n fm s ∧ rcS W r n (rcV W r n) fm s = rcS W' r' n (rcV W' r' n) fm s := by
  have h : ∀ fm s : Int, 0 ≤ fm → fm < n → 0 ≤ s → s < 256 → subS s g → rcV W r n fm s = rcV W' r' n fm s := fun fm s f0 f1 s0 s1 hs => rcN_sub hn hW hr s.toNat fm s f0 f1 s0 s1 hs
  refine ⟨h fm s f0 f1 s0 s1 hs, ?_⟩
  unfold rcS
  by_cases h0 : s = 0
  · rw [if_pos h0, if_pos h0]
  · rw [if_neg h0, if_neg h0]
    refine mnF_congr hn (fun _ _ _ => rfl) (fun b b0 b1 hb => ?_)
    have hb2 := rem_bd (s := s) (a := b) s0
    rw [hW fm b f0 f1 b0 b1, hr s s0 s1 hs, h b (remS s b) b0 b1 hb2.1 (by omega) (sub_rem hs b0)]
theorem rtV_sub {W W' : Int → Int → Int} {r r' : Int → Int} {n g : Int} (hn : 1 ≤ n) (hn8 : n ≤ 8) (hW : ∀ a b : Int, 0 ≤ a → a < n → 0 ≤ b → b < n → W a b = W' a b) (hr : ∀ s : Int, 0 ≤ s → s < 256 → subS s g → r s = r' s) (g0 : 0 ≤ g) (g1 : g < 256) (hg : ∀ a : Int, 0 ≤ a → a < 8 → hasB g a = true → a < n) : ∀ (i : Nat), (i : Int) ≤ popc g → rtV W r n g i = rtV W' r' n g i
  | 0, _ => rfl
  | i + 1, hi => by
    have h := rtV_in (W := W) (r := r) hn hn8 g0 g1 hg i (by omega)
    have e : ((i + 1 : Nat) : Int) = (i : Int) + 1 := by omega
    rw [e, rtV_s (by omega), rtV_s (by omega), ← rtV_sub hn hn8 hW hr g0 g1 hg i (by omega)]
    have := (rcV_sub (n := n) (g := g) (by omega) hW hr h.1.1 h.1.2 h.2.1.1 h.2.1.2 h.2.2.1).2
    unfold stpV
    rw [this]
theorem stopV_sub {W W' : Int → Int → Int} {r r' : Int → Int} {n g k : Int} (hn : 1 ≤ n) (hn8 : n ≤ 8) (hW : ∀ a b : Int, 0 ≤ a → a < n → 0 ≤ b → b < n → W a b = W' a b) (hr : ∀ s : Int, 0 ≤ s → s < 256 → subS s g → r s = r' s) (g0 : 0 ≤ g) (g1 : g < 256) (hg : ∀ a : Int, 0 ≤ a → a < 8 → hasB g a = true → a < n) : stopV W r n g k = stopV W' r' n g k := by
  unfold stopV
  by_cases c : 0 ≤ k ∧ k < popc g
  · rw [if_pos c, if_pos c]
    have := rtV_sub hn hn8 hW hr g0 g1 hg (k + 1).toNat (by omega)
    rw [Int.toNat_of_nonneg (by omega)] at this
    rw [this]
  · rw [if_neg c, if_neg c]
/-- the model's ways and weights, as they lie -/
def Wm (μ : Mem) (a b : Int) : Int := μ 206 (8 * a + b)
def awM (μ : Mem) : Int := awayV (vm μ)
def rm (μ : Mem) (b : Int) : Int := μ 207 (coS (awM μ) b)
def WKb (μ : Mem) : Prop := MB μ ∧ CR μ (awM μ) ∧ (∀ a b : Int, 0 ≤ a → a < vm μ 0 0 → 0 ≤ b → b < vm μ 0 0 → 0 ≤ Wm μ a b ∧ Wm μ a b ≤ 140) ∧ ∀ t : Int, 0 ≤ t → t < ((2 ^ (popc (awM μ)).toNat : Nat) : Int) → 0 ≤ μ 207 t ∧ μ 207 t ≤ 274428
def LSm (μ : Mem) : Prop := ∀ t fm : Int, 0 ≤ t → t < ((2 ^ (popc (awM μ)).toNat : Nat) : Int) → (fm = 7 ∨ (0 ≤ fm ∧ fm < popc (awM μ))) → μ 208 (8 * t + fm) = rcV (Wm μ) (rm μ) (vm μ 0 0) (plF (awM μ) fm) (exS (awM μ) t)
theorem WKb.f {μ : Mem} (h : WKb μ) : (2 ≤ vm μ 0 0 ∧ vm μ 0 0 ≤ 8) ∧ (0 ≤ popc (awM μ) ∧ popc (awM μ) ≤ 7) ∧ (0 ≤ awM μ ∧ awM μ < 256) ∧ (∀ a : Int, 0 ≤ a → a < 8 → hasB (awM μ) a = true → a < vm μ 0 0) ∧ (∀ k : Int, 0 ≤ k → k < popc (awM μ) → (0 ≤ mthV (awM μ) k ∧ mthV (awM μ) k < vm μ 0 0) ∧ hasB (awM μ) (mthV (awM μ) k) = true) := by
  have ok := h.1.v
  have p7 := away_7 ok
  have pb := popc_bd (s := awM μ)
  refine ⟨ok.1, ⟨pb.1, p7⟩, away_bd ok, away_in ok, fun k k0 k1 => ?_⟩
  have hm := mth_in k0 k1
  exact ⟨⟨hm.1.1, away_in ok _ hm.1.1 hm.1.2 hm.2⟩, hm.2⟩
theorem WKb.pl {μ : Mem} (h : WKb μ) {fm : Int} (hf : fm = 7 ∨ (0 ≤ fm ∧ fm < popc (awM μ))) : 0 ≤ plF (awM μ) fm ∧ plF (awM μ) fm < vm μ 0 0 := by
  have f := h.f
  unfold plF
  by_cases c : fm = 7
  · rw [if_pos c]; omega
  · rw [if_neg c]
    exact (f.2.2.2.2 fm (by omega) (by omega)).1
theorem WKb.r {μ : Mem} (h : WKb μ) (b : Int) : 0 ≤ rm μ b ∧ rm μ b ≤ 274428 := h.2.2.2 _ co_bd.1 co_bd.2
theorem WKb.rc {μ : Mem} (h : WKb μ) {fm s : Int} (s0 : 0 ≤ s) (s1 : s < 256) (f0 : 0 ≤ fm) (f1 : fm < vm μ 0 0) : 0 ≤ rcV (Wm μ) (rm μ) (vm μ 0 0) fm s ∧ rcV (Wm μ) (rm μ) (vm μ 0 0) fm s ≤ 307359360 := by
  have f := h.f
  have := rcV_bd (W := Wm μ) (r := rm μ) (n := vm μ 0 0) (B := 274428) (by omega) f.1.2 (by omega) h.2.2.1 (fun s _ _ => h.r s) s.toNat fm s s0 s1 (by omega) ⟨f0, f1⟩
  have pb := popc_bd (s := s)
  have : popc s * (140 * 274428) ≤ 8 * (140 * 274428) := Int.mul_le_mul_of_nonneg_right pb.2 (by omega)
  omega
theorem WKb.mul {μ : Mem} (h : WKb μ) {a b s : Int} (a0 : 0 ≤ a) (a1 : a < vm μ 0 0) (b0 : 0 ≤ b) (b1 : b < vm μ 0 0) : 0 ≤ Wm μ a b * rm μ s ∧ Wm μ a b * rm μ s ≤ 38419920 := by
  have w := h.2.2.1 a b a0 a1 b0 b1
  have := mul_bd w.1 w.2 (h.r s).1 (h.r s).2
  omega
theorem WKb_frame {μ m : Mem} (h : WKb μ) (h201 : ∀ f : Int, (f = 12 ∨ f = 13 ∨ f = 14) → m 201 f = μ 201 f) (h2 : m 202 = μ 202) (h5 : m 205 = μ 205) (h6 : m 206 = μ 206) (h7 : m 207 = μ 207) : WKb m ∧ vm m = vm μ ∧ awM m = awM μ ∧ Wm m = Wm μ ∧ rm m = rm μ := by
  obtain ⟨mb, ev⟩ := MB_frame h.1 h2 (h201 12 (by omega)) (h201 13 (by omega))
  have ea : awM m = awM μ := by unfold awM; rw [ev]
  have eW : Wm m = Wm μ := by funext a b; unfold Wm; rw [h6]
  have er : rm m = rm μ := by funext b; unfold rm; rw [h7, ea]
  refine ⟨⟨mb, ?_, ?_, ?_⟩, ev, ea, eW, er⟩
  · have := h.2.1
    unfold CR at *
    rw [ea, h201 14 (by omega), h5]
    exact this
  · rw [eW, ev]; exact h.2.2.1
  · rw [ea, h7]; exact h.2.2.2
theorem LSm_frame {μ m : Mem} (h : LSm μ) (ev : vm m = vm μ) (ea : awM m = awM μ) (eW : Wm m = Wm μ) (er : rm m = rm μ) (h8 : m 208 = μ 208) : LSm m := by
  unfold LSm at *
  rw [ev, ea, eW, er, h8]
  exact h
/-- the least so far, as the model holds it -/
def BVm (x : Int × Int) : Int := if x.2 < 0 then -1 else x.1
def stG (μ : Mem) (fm t : Int) (k : Int) : Int := Wm μ fm (mthV (awM μ) k) * rm μ (exS (awM μ) t) + rcV (Wm μ) (rm μ) (vm μ 0 0) (mthV (awM μ) k) (exS (awM μ) (remS t k))
theorem stG_bd {μ : Mem} (h : WKb μ) {fm t k : Int} (f0 : 0 ≤ fm) (f1 : fm < vm μ 0 0) (k0 : 0 ≤ k) (k1 : k < popc (awM μ)) : 0 ≤ stG μ fm t k ∧ stG μ fm t k ≤ 345779280 := by
  have f := h.f
  have hm := f.2.2.2.2 k k0 k1
  have a := h.mul (s := exS (awM μ) t) f0 f1 hm.1.1 hm.1.2
  have b := h.rc (s := exS (awM μ) (remS t k)) ex_bd.1 ex_bd.2 hm.1.1 hm.1.2
  unfold stG
  omega
theorem rm_ex {μ : Mem} {t : Int} (t0 : 0 ≤ t) (t1 : t < ((2 ^ (popc (awM μ)).toNat : Nat) : Int)) : rm μ (exS (awM μ) t) = μ 207 t := by
  unfold rm
  rw [co_of t0 t1]
def plM (μ : Mem) (fm : Int) : Int := if fm = 7 then 0 else μ 205 fm
def P_X11_between (o fm to : Int) (μ : Mem) : Prop := o = 201 ∧ (0 ≤ fm ∧ fm ≤ 7) ∧ (0 ≤ plM μ fm ∧ plM μ fm < 8) ∧ (0 ≤ to ∧ to < 7) ∧ 0 ≤ μ 205 to ∧ μ 205 to < 8
def F_X11_between (_ fm to : Int) (μ : Mem) : Int := Wm μ (plM μ fm) (μ 205 to)
def S_X11_between : S0t := fun as μ Q => match as with
  | [(2, x0), (0, x1), (0, x2)] => P_X11_between x0 x1 x2 μ ∧ Q μ (some (kI (F_X11_between x0 x1 x2 μ)))
  | _ => False
theorem mono_X11_between : Mono S_X11_between := by
  intro as μ Q Q' h hS
  unfold S_X11_between at hS ⊢
  split at hS
  · exact ⟨hS.1, h _ _ hS.2⟩
  · exact hS.elim
def iX11_between : Inf := (kX11_between, fTX11, pTX11, cTX11, lTX11, sTX11, [])
theorem ok_X11_between : infOK iX11_between mX11_between RX11 0 0 := ⟨kkX11_between, fTX11_ok, pTX11_ok _, cTX11_ok, lTX11_ok, sTX11_ok, c_nil⟩
theorem mt_X11_between : mtOK [] RX11 0 0 := mt_nil
abbrev V_X11_between (R : Mem → Option AV → Prop) (pc : Nat) (lc : List (Nat × AV)) (μ : Mem) : Prop := VM mX11_between RX11 0 0 R pc lc [] μ
set_option maxRecDepth 20000 in
theorem vc_X11_between_0 {R : Mem → Option AV → Prop} {fm to_ : Int} {μ : Mem} (H : r32 fm ∧ ((¬ fm = (7 : Int)) → (0 ≤ fm ∧ fm < 7) ∧ (0 ≤ to_ ∧ to_ < 7) ∧ (0 ≤ ((8 * (μ 205 fm)) + (μ 205 to_)) ∧ ((8 * (μ 205 fm)) + (μ 205 to_)) < 64) ∧ R μ (some (kI (μ 206 ((8 * (μ 205 fm)) + (μ 205 to_)))))) ∧ (¬ (¬ fm = (7 : Int)) → (0 ≤ to_ ∧ to_ < 7) ∧ (0 ≤ ((8 * 0) + (μ 205 to_)) ∧ ((8 * 0) + (μ 205 to_)) < 64) ∧ R μ (some (kI (μ 206 ((8 * 0) + (μ 205 to_))))))) : V_X11_between R 0 [(0, kR 201), (1, kI fm), (2, kI to_)] μ := by
  refine vm_step2 mt_X11_between ok_X11_between [] 1000 ?_
  show isC 201 11 ∧ (r32 fm ∧ r32 (7 : Int)) ∧ ((¬ fm = (7 : Int)) → isC 201 11 ∧ inA 205 0 fm ∧ isC 201 11 ∧ inA 205 0 to_ ∧ inA 206 0 ((8 * (μ 205 fm)) + (μ 205 to_)) ∧ R μ (some (kI (μ 206 ((8 * (μ 205 fm)) + (μ 205 to_)))))) ∧ (¬ (¬ fm = (7 : Int)) → isC 201 11 ∧ inA 205 0 to_ ∧ inA 206 0 ((8 * 0) + (μ 205 to_)) ∧ R μ (some (kI (μ 206 ((8 * 0) + (μ 205 to_))))))
  exact ⟨c_201, ⟨⟨H.1, by unfold r32; omega⟩, fun hc1 => ⟨c_201, ⟨isArr.in a_205 (H.2.1 hc1).1.1 (H.2.1 hc1).1.2, ⟨c_201, ⟨isArr.in a_205 (H.2.1 hc1).2.1.1 (H.2.1 hc1).2.1.2, ⟨isArr.in a_206 (H.2.1 hc1).2.2.1.1 (H.2.1 hc1).2.2.1.2, (H.2.1 hc1).2.2.2⟩⟩⟩⟩⟩, fun hc1 => ⟨c_201, ⟨isArr.in a_205 (H.2.2 hc1).1.1 (H.2.2 hc1).1.2, ⟨isArr.in a_206 (H.2.2 hc1).2.1.1 (H.2.2 hc1).2.1.2, (H.2.2 hc1).2.2⟩⟩⟩⟩⟩
theorem body_X11_between {o fm to_ : Int} {μ : Mem} {R : Mem → Option AV → Prop} (h : P_X11_between o fm to_ μ) (hR : R μ (some (kI (F_X11_between o fm to_ μ)))) : V_X11_between R 0 [(0, kR o), (1, kI fm), (2, kI to_)] μ := by
  obtain ⟨rfl, hf, hp, ht, h5⟩ := h
  unfold F_X11_between Wm at hR
  unfold plM at hp hR
  refine vc_X11_between_0 ⟨rr (by omega), fun c => ?_, fun c => ?_⟩
  · rw [if_neg c] at hp hR
    exact ⟨by omega, ht, by omega, hR⟩
  · rw [if_pos (Classical.byContradiction c)] at hR
    exact ⟨ht, by omega, hR⟩
theorem bet_ok {μ : Mem} (h : WKb μ) {fm to : Int} (hf : fm = 7 ∨ (0 ≤ fm ∧ fm < popc (awM μ))) (t0 : 0 ≤ to) (t1 : to < popc (awM μ)) : P_X11_between 201 fm to μ ∧ F_X11_between 201 fm to μ = Wm μ (plF (awM μ) fm) (mthV (awM μ) to) := by
  have f := h.f
  have hm := f.2.2.2.2 to t0 t1
  have hp := h.pl hf
  have e5 := h.2.1.2 to t0 t1
  have ep : plM μ fm = plF (awM μ) fm := by
    unfold plM plF
    by_cases c : fm = 7
    · rw [if_pos c, if_pos c]
    · rw [if_neg c, if_neg c]; exact h.2.1.2 fm (by omega) (by omega)
  unfold F_X11_between
  rw [ep, e5]
  exact ⟨⟨rfl, by omega, by rw [ep]; omega, by omega, by rw [e5]; omega⟩, rfl⟩
theorem ct_X11_between : Ct mX11_between 0 0 0 0 (nrmS S_X11_between) := by
  refine ct_vm (own := RX11) (by decide +kernel) rfl ?_ ?_
  · intro as μ Q hS
    unfold S_X11_between at hS
    split at hS
    · exact Nat.le_of_ble_eq_true rfl
    · exact hS.elim
  · intro as μ R hS
    unfold S_X11_between at hS
    split at hS
    · exact body_X11_between hS.1 hS.2
    · exact hS.elim
def P_X11_walks (o : Int) (μ : Mem) : Prop := o = 201 ∧ WKb μ
def Q_X11_walks (_ : Int) (μ μ' : Mem) : Prop := LSm μ' ∧ ∀ z : Int, z ≠ 208 → μ' z = μ z
def S_X11_walks : S0t := fun as μ Q => match as with
  | [(2, x0)] => P_X11_walks x0 μ ∧ ∀ (μ' : Mem) , Q_X11_walks x0 μ μ'  → Q μ' none
  | _ => False
theorem mono_X11_walks : Mono S_X11_walks := by
  intro as μ Q Q' h hS
  unfold S_X11_walks at hS ⊢
  split at hS
  · exact ⟨hS.1, fun μ' q => h _ _ (hS.2 _ q)⟩
  · exact hS.elim
def iX11_walks : Inf := (kX11_walks, fTX11, pTX11, cTX11, lTX11, sTX11, [(247, 0, 2, 11, S_X11_between)])
theorem ok_X11_walks : infOK iX11_walks mX11_walks RX11 1 22 := ⟨kkX11_walks, fTX11_ok, pTX11_ok _, cTX11_ok, lTX11_ok, sTX11_ok, c_cons ⟨mX11_between, 0, 0, ct_X11_between, mmX11_between, vvX11_between, lkX11_247, ⟨by decide, by decide⟩, ⟨_, _, rfl⟩, by decide, mono_X11_between⟩ (c_nil)⟩
theorem mt_X11_walks : mtOK [] RX11 1 22 := mt_nil
abbrev V_X11_walks (R : Mem → Option AV → Prop) (pc : Nat) (lc : List (Nat × AV)) (μ : Mem) : Prop := VM mX11_walks RX11 1 22 R pc lc [] μ
set_option maxRecDepth 20000 in
theorem vc_X11_walks_0 {R : Mem → Option AV → Prop} {μ : Mem} (H : V_X11_walks R 2 [(0, kR 201), (1, kI 0)] μ) : V_X11_walks R 0 [(0, kR 201)] μ := by
  refine vm_step2 mt_X11_walks ok_X11_walks [(2, [0, 1]), (14, [0, 1, 2]), (50, [0, 1, 2, 3, 4]), (138, [0, 1, 2])] 1000 ?_
  show V_X11_walks R 2 [(0, kR 201), (1, kI 0)] μ
  exact H
set_option maxRecDepth 20000 in
theorem vc_X11_walks_2 {R : Mem → Option AV → Prop} {s : Int} {μ : Mem} (H : r32 s ∧ r32 (bshl 1 (μ 201 14)) ∧ (((bshl 1 (μ 201 14)) ≤ s) → R μ none) ∧ (¬ ((bshl 1 (μ 201 14)) ≤ s) → V_X11_walks R 14 [(0, kR 201), (1, kI s), (2, kI 0)] μ)) : V_X11_walks R 2 [(0, kR 201), (1, kI s)] μ := by
  refine vm_step2 mt_X11_walks ok_X11_walks [(2, [0, 1]), (14, [0, 1, 2]), (50, [0, 1, 2, 3, 4]), (138, [0, 1, 2])] 1000 ?_
  show isC 201 11 ∧ (r32 s ∧ r32 (bshl 1 (μ 201 14))) ∧ (((bshl 1 (μ 201 14)) ≤ s) → R μ none) ∧ (¬ ((bshl 1 (μ 201 14)) ≤ s) → V_X11_walks R 14 [(0, kR 201), (1, kI s), (2, kI 0)] μ)
  exact ⟨c_201, ⟨⟨H.1, H.2.1⟩, fun hc1 => (H.2.2.1 hc1), fun hc1 => (H.2.2.2 hc1)⟩⟩
set_option maxRecDepth 20000 in
theorem vc_X11_walks_14 {R : Mem → Option AV → Prop} {s fm : Int} {μ : Mem} (H : r32 fm ∧ (((8 : Int) ≤ fm) → V_X11_walks R 2 [(0, kR 201), (1, kI (s + 1))] μ) ∧ (¬ ((8 : Int) ≤ fm) → r32 fm ∧ (((7 : Int) ≤ fm) → r32 s ∧ ((¬ s = 0) → V_X11_walks R 50 [(0, kR 201), (1, kI s), (2, kI fm), (3, kI (-1)), (4, kI 0)] μ) ∧ (¬ (¬ s = 0) → V_X11_walks R 50 [(0, kR 201), (1, kI s), (2, kI fm), (3, kI 0), (4, kI 0)] μ)) ∧ (¬ ((7 : Int) ≤ fm) → r32 fm ∧ r32 (μ 201 14) ∧ ((fm < (μ 201 14)) → r32 s ∧ ((¬ s = 0) → V_X11_walks R 50 [(0, kR 201), (1, kI s), (2, kI fm), (3, kI (-1)), (4, kI 0)] μ) ∧ (¬ (¬ s = 0) → V_X11_walks R 50 [(0, kR 201), (1, kI s), (2, kI fm), (3, kI 0), (4, kI 0)] μ)) ∧ (¬ (fm < (μ 201 14)) → V_X11_walks R 138 [(0, kR 201), (1, kI s), (2, kI fm)] μ)))) : V_X11_walks R 14 [(0, kR 201), (1, kI s), (2, kI fm)] μ := by
  refine vm_step2 mt_X11_walks ok_X11_walks [(2, [0, 1]), (14, [0, 1, 2]), (50, [0, 1, 2, 3, 4]), (138, [0, 1, 2])] 1000 ?_
  show (r32 fm ∧ r32 (8 : Int)) ∧ (((8 : Int) ≤ fm) → V_X11_walks R 2 [(0, kR 201), (1, kI (s + 1))] μ) ∧ (¬ ((8 : Int) ≤ fm) → (r32 fm ∧ r32 (7 : Int)) ∧ (((7 : Int) ≤ fm) → r32 s ∧ ((¬ s = 0) → V_X11_walks R 50 [(0, kR 201), (1, kI s), (2, kI fm), (3, kI (-1)), (4, kI 0)] μ) ∧ (¬ (¬ s = 0) → V_X11_walks R 50 [(0, kR 201), (1, kI s), (2, kI fm), (3, kI 0), (4, kI 0)] μ)) ∧ (¬ ((7 : Int) ≤ fm) → isC 201 11 ∧ (r32 fm ∧ r32 (μ 201 14)) ∧ ((fm < (μ 201 14)) → r32 s ∧ ((¬ s = 0) → V_X11_walks R 50 [(0, kR 201), (1, kI s), (2, kI fm), (3, kI (-1)), (4, kI 0)] μ) ∧ (¬ (¬ s = 0) → V_X11_walks R 50 [(0, kR 201), (1, kI s), (2, kI fm), (3, kI 0), (4, kI 0)] μ)) ∧ (¬ (fm < (μ 201 14)) → V_X11_walks R 138 [(0, kR 201), (1, kI s), (2, kI fm)] μ)))
  exact ⟨⟨H.1, by unfold r32; omega⟩, fun hc6 => (H.2.1 hc6), fun hc6 => ⟨⟨(H.2.2 hc6).1, by unfold r32; omega⟩, fun hc5 => ⟨((H.2.2 hc6).2.1 hc5).1, fun hc2 => (((H.2.2 hc6).2.1 hc5).2.1 hc2), fun hc2 => (((H.2.2 hc6).2.1 hc5).2.2 hc2)⟩, fun hc5 => ⟨c_201, ⟨⟨((H.2.2 hc6).2.2 hc5).1, ((H.2.2 hc6).2.2 hc5).2.1⟩, fun hc4 => ⟨(((H.2.2 hc6).2.2 hc5).2.2.1 hc4).1, fun hc3 => ((((H.2.2 hc6).2.2 hc5).2.2.1 hc4).2.1 hc3), fun hc3 => ((((H.2.2 hc6).2.2 hc5).2.2.1 hc4).2.2 hc3)⟩, fun hc4 => (((H.2.2 hc6).2.2 hc5).2.2.2 hc4)⟩⟩⟩⟩
set_option maxRecDepth 20000 in
theorem vc_X11_walks_50 {R : Mem → Option AV → Prop} {s fm best to_ : Int} {μ : Mem} (H : r32 to_ ∧ r32 (μ 201 14) ∧ (((μ 201 14) ≤ to_) → (0 ≤ ((8 * s) + fm) ∧ ((8 * s) + fm) < 1024) ∧ V_X11_walks R 138 [(0, kR 201), (1, kI s), (2, kI fm)] (updm μ 208 ((8 * s) + fm) best)) ∧ (¬ ((μ 201 14) ≤ to_) → r32 (band (bshr s to_) 1) ∧ ((¬ (band (bshr s to_) 1) = 0) → P_X11_between 201 fm to_ μ ∧ (0 ≤ s ∧ s < 128) ∧ (0 ≤ ((8 * (band s (bxor (bshl 1 to_) (-1)))) + to_) ∧ ((8 * (band s (bxor (bshl 1 to_) (-1)))) + to_) < 1024) ∧ r32 best ∧ ((best < 0) → V_X11_walks R 50 [(0, kR 201), (1, kI s), (2, kI fm), (3, kI (((F_X11_between 201 fm to_ μ) * (μ 207 s)) + (μ 208 ((8 * (band s (bxor (bshl 1 to_) (-1)))) + to_)))), (4, kI (to_ + 1))] μ) ∧ (¬ (best < 0) → r32 (((F_X11_between 201 fm to_ μ) * (μ 207 s)) + (μ 208 ((8 * (band s (bxor (bshl 1 to_) (-1)))) + to_))) ∧ r32 best ∧ ((best ≤ (((F_X11_between 201 fm to_ μ) * (μ 207 s)) + (μ 208 ((8 * (band s (bxor (bshl 1 to_) (-1)))) + to_)))) → V_X11_walks R 50 [(0, kR 201), (1, kI s), (2, kI fm), (3, kI best), (4, kI (to_ + 1))] μ) ∧ (¬ (best ≤ (((F_X11_between 201 fm to_ μ) * (μ 207 s)) + (μ 208 ((8 * (band s (bxor (bshl 1 to_) (-1)))) + to_)))) → V_X11_walks R 50 [(0, kR 201), (1, kI s), (2, kI fm), (3, kI (((F_X11_between 201 fm to_ μ) * (μ 207 s)) + (μ 208 ((8 * (band s (bxor (bshl 1 to_) (-1)))) + to_)))), (4, kI (to_ + 1))] μ))) ∧ (¬ (¬ (band (bshr s to_) 1) = 0) → V_X11_walks R 50 [(0, kR 201), (1, kI s), (2, kI fm), (3, kI best), (4, kI (to_ + 1))] μ))) : V_X11_walks R 50 [(0, kR 201), (1, kI s), (2, kI fm), (3, kI best), (4, kI to_)] μ := by
  refine vm_step2 mt_X11_walks ok_X11_walks [(2, [0, 1]), (14, [0, 1, 2]), (50, [0, 1, 2, 3, 4]), (138, [0, 1, 2])] 1000 ?_
  show isC 201 11 ∧ (r32 to_ ∧ r32 (μ 201 14)) ∧ (((μ 201 14) ≤ to_) → isC 201 11 ∧ inA 208 0 ((8 * s) + fm) ∧ V_X11_walks R 138 [(0, kR 201), (1, kI s), (2, kI fm)] (updm μ 208 ((8 * s) + fm) best)) ∧ (¬ ((μ 201 14) ≤ to_) → r32 (band (bshr s to_) 1) ∧ ((¬ (band (bshr s to_) 1) = 0) → isC 201 11 ∧ P_X11_between 201 fm to_ μ ∧ isC 201 11 ∧ inA 207 0 s ∧ isC 201 11 ∧ inA 208 0 ((8 * (band s (bxor (bshl 1 to_) (-1)))) + to_) ∧ r32 best ∧ ((best < 0) → V_X11_walks R 50 [(0, kR 201), (1, kI s), (2, kI fm), (3, kI (((F_X11_between 201 fm to_ μ) * (μ 207 s)) + (μ 208 ((8 * (band s (bxor (bshl 1 to_) (-1)))) + to_)))), (4, kI (to_ + 1))] μ) ∧ (¬ (best < 0) → (r32 (((F_X11_between 201 fm to_ μ) * (μ 207 s)) + (μ 208 ((8 * (band s (bxor (bshl 1 to_) (-1)))) + to_))) ∧ r32 best) ∧ ((best ≤ (((F_X11_between 201 fm to_ μ) * (μ 207 s)) + (μ 208 ((8 * (band s (bxor (bshl 1 to_) (-1)))) + to_)))) → V_X11_walks R 50 [(0, kR 201), (1, kI s), (2, kI fm), (3, kI best), (4, kI (to_ + 1))] μ) ∧ (¬ (best ≤ (((F_X11_between 201 fm to_ μ) * (μ 207 s)) + (μ 208 ((8 * (band s (bxor (bshl 1 to_) (-1)))) + to_)))) → V_X11_walks R 50 [(0, kR 201), (1, kI s), (2, kI fm), (3, kI (((F_X11_between 201 fm to_ μ) * (μ 207 s)) + (μ 208 ((8 * (band s (bxor (bshl 1 to_) (-1)))) + to_)))), (4, kI (to_ + 1))] μ))) ∧ (¬ (¬ (band (bshr s to_) 1) = 0) → V_X11_walks R 50 [(0, kR 201), (1, kI s), (2, kI fm), (3, kI best), (4, kI (to_ + 1))] μ))
  exact ⟨c_201, ⟨⟨H.1, H.2.1⟩, fun hc10 => ⟨c_201, ⟨isArr.in a_208 (H.2.2.1 hc10).1.1 (H.2.2.1 hc10).1.2, (H.2.2.1 hc10).2⟩⟩, fun hc10 => ⟨(H.2.2.2 hc10).1, fun hc9 => ⟨c_201, ((H.2.2.2 hc10).2.1 hc9).1, ⟨c_201, ⟨isArr.in a_207 ((H.2.2.2 hc10).2.1 hc9).2.1.1 ((H.2.2.2 hc10).2.1 hc9).2.1.2, ⟨c_201, ⟨isArr.in a_208 ((H.2.2.2 hc10).2.1 hc9).2.2.1.1 ((H.2.2.2 hc10).2.1 hc9).2.2.1.2, ⟨((H.2.2.2 hc10).2.1 hc9).2.2.2.1, fun hc8 => (((H.2.2.2 hc10).2.1 hc9).2.2.2.2.1 hc8), fun hc8 => ⟨⟨(((H.2.2.2 hc10).2.1 hc9).2.2.2.2.2 hc8).1, (((H.2.2.2 hc10).2.1 hc9).2.2.2.2.2 hc8).2.1⟩, fun hc7 => ((((H.2.2.2 hc10).2.1 hc9).2.2.2.2.2 hc8).2.2.1 hc7), fun hc7 => ((((H.2.2.2 hc10).2.1 hc9).2.2.2.2.2 hc8).2.2.2 hc7)⟩⟩⟩⟩⟩⟩⟩, fun hc9 => ((H.2.2.2 hc10).2.2 hc9)⟩⟩⟩
set_option maxRecDepth 20000 in
theorem vc_X11_walks_138 {R : Mem → Option AV → Prop} {s fm : Int} {μ : Mem} (H : V_X11_walks R 14 [(0, kR 201), (1, kI s), (2, kI (fm + 1))] μ) : V_X11_walks R 138 [(0, kR 201), (1, kI s), (2, kI fm)] μ := by
  refine vm_step2 mt_X11_walks ok_X11_walks [(2, [0, 1]), (14, [0, 1, 2]), (50, [0, 1, 2, 3, 4]), (138, [0, 1, 2])] 1000 ?_
  show V_X11_walks R 14 [(0, kR 201), (1, kI s), (2, kI (fm + 1))] μ
  exact H
theorem body_X11_walks {o : Int} {μ : Mem} {R : Mem → Option AV → Prop} (h : P_X11_walks o μ) (hR : ∀ μ' : Mem, Q_X11_walks o μ μ' → R μ' none) : V_X11_walks R 0 [(0, kR o)] μ := by
  obtain ⟨rfl, hk⟩ := h
  have f := hk.f
  have p2 := pw2_7 f.2.1.1 f.2.1.2
  have p1 := pw2_le f.2.1.1 (by omega)
  have es := b_shl (k := popc (awM μ)) (by omega) (by omega)
  obtain ⟨N2, hN⟩ : ∃ N2 : Int, N2 = ((2 ^ (popc (awM μ)).toNat : Nat) : Int) := ⟨_, rfl⟩
  rw [← hN] at p1 p2 es
  have e14 := hk.2.1.1
  obtain ⟨Dn, hDn⟩ : ∃ Dn : Mem → Int → Int → Prop, Dn = fun m t fm => (∀ z : Int, z ≠ 208 → m z = μ z) ∧ ∀ t' fm' : Int, 0 ≤ t' → (fm' = 7 ∨ (0 ≤ fm' ∧ fm' < popc (awM μ))) → (t' < t ∨ (t' = t ∧ fm' < fm)) → m 208 (8 * t' + fm') = rcV (Wm μ) (rm μ) (vm μ 0 0) (plF (awM μ) fm') (exS (awM μ) t') := ⟨_, rfl⟩
  have fr : ∀ m t fm, Dn m t fm → WKb m ∧ vm m = vm μ ∧ awM m = awM μ ∧ Wm m = Wm μ ∧ rm m = rm μ ∧ m 201 14 = popc (awM μ) ∧ m 205 = μ 205 ∧ m 207 = μ 207 := fun m t fm hm => by
    rw [hDn] at hm
    have z := hm.1
    have := WKb_frame (m := m) hk (fun f _ => by rw [z 201 (by omega)]) (z 202 (by omega)) (z 205 (by omega)) (z 206 (by omega)) (z 207 (by omega))
    exact ⟨this.1, this.2.1, this.2.2.1, this.2.2.2.1, this.2.2.2.2, by rw [z 201 (by omega), e14], z 205 (by omega), z 207 (by omega)⟩
  refine vc_X11_walks_0 ?_
  refine up_ind (P := fun t => ∀ m : Mem, Dn m t 0 → V_X11_walks R 2 [(0, kR 201), (1, kI t)] m) (lo := 0) (hi := N2) ?_ ?_ 0 (by omega) (by omega) μ (by rw [hDn]; exact ⟨fun _ _ => rfl, fun t' fm' _ _ _ => by omega⟩)
  · intro t t0 t1 iht m hm
    obtain ⟨hkm, ev, ea, eW, er, m14, _, _⟩ := fr m t 0 hm
    refine vc_X11_walks_2 ?_
    rw [m14, es]
    refine ⟨rr (by omega), rr (by omega), fun c => absurd c (by omega), fun _ => ?_⟩
    refine up_ind (P := fun fm => ∀ m : Mem, Dn m t fm → V_X11_walks R 14 [(0, kR 201), (1, kI t), (2, kI fm)] m) (lo := 0) (hi := 8) ?_ ?_ 0 (by omega) (by omega) m hm
    · intro fm f0 f1 ihf m hm
      obtain ⟨hkm, ev, ea, eW, er, m14, m5, m7⟩ := fr m t fm hm
      have hm2 := hm
      rw [hDn] at hm2
      -- the sum over the next places
      have inner : (fm = 7 ∨ (0 ≤ fm ∧ fm < popc (awM μ))) → ∀ b : Int, (t = 0 ∧ b = 0 ∨ t ≠ 0 ∧ b = -1) → V_X11_walks R 50 [(0, kR 201), (1, kI t), (2, kI fm), (3, kI b), (4, kI 0)] m := by
        intro hf b hb
        have hpl := hk.pl hf
        have gb := fun k k0 k1 => stG_bd (t := t) (k := k) hk hpl.1 hpl.2 k0 k1
        have key := up_ind (P := fun k => V_X11_walks R 50 [(0, kR 201), (1, kI t), (2, kI fm), (3, kI (if t = 0 then 0 else BVm (mnF (hasB t) (stG μ (plF (awM μ) fm) t) k))), (4, kI k)] m) (lo := 0) (hi := popc (awM μ)) ?_ ?_
        · have := key 0 (by omega) (by omega)
          have e : (if t = 0 then 0 else BVm (mnF (hasB t) (stG μ (plF (awM μ) fm) t) 0)) = b := by
            rcases hb with ⟨x, y⟩ | ⟨x, y⟩
            · rw [if_pos x, y]
            · rw [if_neg x, y]; rfl
          rw [e] at this
          exact this
        · intro k k0 k1 ih
          have et := b_tst (s := t) (a := k) t0 (by omega) k0 (by omega)
          have erem := b_rem (s := t) (a := k) t0 (by omega) k0 (by omega)
          have bet := bet_ok hkm (fm := fm) (to := k) (by rw [ea]; exact hf) k0 (by rw [ea]; exact k1)
          have ms := mnF_s (q := hasB t) (f := stG μ (plF (awM μ) fm) t) k0
          refine vc_X11_walks_50 ?_
          rw [m14, et]
          by_cases hbit : hasB t k = true
          · have tn : t ≠ 0 := fun q => by rw [q, has_0] at hbit; exact absurd hbit (by decide)
            have rb := rem_bd (s := t) (a := k) t0
            have rl' := rem_lt t0 k0 hbit
            have e8 := hm2.2 (remS t k) k rb.1 (Or.inr ⟨k0, k1⟩) (Or.inl rl')
            have ev8 : plF (awM μ) k = mthV (awM μ) k := by unfold plF; rw [if_neg (by omega)]
            have er7 : m 207 t = rm μ (exS (awM μ) t) := by rw [rm_ex t0 (by omega), m7]
            rw [if_pos hbit, erem, bet.2, ea, eW, er7, e8, ev8]
            have eg : Wm μ (plF (awM μ) fm) (mthV (awM μ) k) * rm μ (exS (awM μ) t) + rcV (Wm μ) (rm μ) (vm μ 0 0) (mthV (awM μ) k) (exS (awM μ) (remS t k)) = stG μ (plF (awM μ) fm) t k := rfl
            rw [eg]
            have gbk := gb k k0 k1
            rw [if_neg tn] at ih ⊢
            rw [ms] at ih
            have mc := mnF_cases (q := hasB t) (f := stG μ (plF (awM μ) fm) t) (n := k) k0
            generalize mnF (hasB t) (stG μ (plF (awM μ) fm) t) k = M at ih mc ⊢
            have mb : (M.2 < 0 ∧ BVm M = -1) ∨ (¬ M.2 < 0 ∧ BVm M = M.1 ∧ 0 ≤ M.1 ∧ M.1 ≤ 345779280) := by
              unfold BVm
              rcases mc with ⟨e, _⟩ | ⟨j, hj, e, _⟩
              · left; rw [e]; exact ⟨by show (-1 : Int) < 0; omega, rfl⟩
              · right
                have := gb j hj.1 (by omega)
                rw [e, if_neg (by show ¬ j < 0; omega)]
                exact ⟨by show ¬ j < 0; omega, rfl, this⟩
            refine ⟨rr (by omega), rr (by omega), fun c => absurd c (by omega), fun _ => ⟨rr (by omega), fun _ => ⟨bet.1, by omega, by omega, rr (by omega), fun c => ?_, fun c => ⟨rr (by omega), rr (by omega), fun c2 => ?_, fun c2 => ?_⟩⟩, fun c => absurd (show ¬ (1 : Int) = 0 by omega) c⟩⟩
            · rw [if_pos ⟨hbit, Or.inl (by omega)⟩] at ih
              unfold BVm at ih
              rw [if_neg (by show ¬ k < 0; omega)] at ih
              exact ih
            · rw [if_neg (fun q => by rcases q.2 with q | q <;> omega)] at ih
              exact ih
            · rw [if_pos ⟨hbit, Or.inr (by omega)⟩] at ih
              unfold BVm at ih
              rw [if_neg (by show ¬ k < 0; omega)] at ih
              exact ih
          · rw [if_neg hbit]
            rw [show mnF (hasB t) (stG μ (plF (awM μ) fm) t) (k + 1) = mnF (hasB t) (stG μ (plF (awM μ) fm) t) k by rw [ms, if_neg (fun q => hbit q.1)]] at ih
            exact ⟨rr (by omega), rr (by omega), fun c => absurd c (by omega), fun _ => ⟨rr (by omega), fun c => absurd rfl c, fun _ => ih⟩⟩
        · refine vc_X11_walks_50 ?_
          rw [m14]
          refine ⟨rr (by omega), rr (by omega), fun _ => ⟨by omega, vc_X11_walks_138 (ihf _ ?_)⟩, fun c => absurd (Int.le_refl _) c⟩
          have eval : (if t = 0 then 0 else BVm (mnF (hasB t) (stG μ (plF (awM μ) fm) t) (popc (awM μ)))) = rcV (Wm μ) (rm μ) (vm μ 0 0) (plF (awM μ) fm) (exS (awM μ) t) := by
            by_cases tn : t = 0
            · rw [if_pos tn, tn, ex_0, rcV_eq (by omega) (by omega)]
              unfold rcS
              rw [if_pos rfl]
            · rw [if_neg tn]
              have rl0 := rc_lst (W := Wm μ) (r := rm μ) (n := vm μ 0 0) (s := awM μ) (t := t) (fm := plF (awM μ) fm) (by omega) f.1.2 f.2.2.2.1 t0 tn (by omega)
              unfold BVm
              show (if (mnF (hasB t) (stG μ (plF (awM μ) fm) t) (popc (awM μ))).2 < 0 then -1 else (mnF (hasB t) (stG μ (plF (awM μ) fm) t) (popc (awM μ))).1) = _
              rw [if_neg (by have := rl0.2.1.1; unfold stG; omega)]
              exact rl0.1
          rw [eval, hDn]
          refine ⟨fun z hz => by rw [ru_ne hz]; exact hm2.1 z hz, fun t' fm' h0 hf' ho => ?_⟩
          rw [ru_eq]
          by_cases q : t' = t ∧ fm' = fm
          · rw [q.1, q.2, r1_eq]
          · rw [r1_ne (by omega)]
            exact hm2.2 t' fm' h0 hf' (by omega)
      have skip : ¬ (fm = 7 ∨ (0 ≤ fm ∧ fm < popc (awM μ))) → Dn m t (fm + 1) := fun hno => by
        rw [hDn]
        exact ⟨hm2.1, fun t' fm' h0 hf' ho => hm2.2 t' fm' h0 hf' (by omega)⟩
      refine vc_X11_walks_14 ?_
      rw [m14]
      refine ⟨rr (by omega), fun c => absurd c (by omega), fun _ => ⟨rr (by omega), fun c => ⟨rr (by omega), fun d => inner (by omega) _ (Or.inr ⟨d, rfl⟩), fun d => inner (by omega) _ (Or.inl ⟨Classical.byContradiction d, rfl⟩)⟩, fun c => ⟨rr (by omega), rr (by omega), fun c2 => ⟨rr (by omega), fun d => inner (by omega) _ (Or.inr ⟨d, rfl⟩), fun d => inner (by omega) _ (Or.inl ⟨Classical.byContradiction d, rfl⟩)⟩, fun c2 => vc_X11_walks_138 (ihf m (skip (by omega)))⟩⟩⟩
    · intro m hm
      refine vc_X11_walks_14 ⟨rr (by omega), fun _ => iht m ?_, fun c => absurd (Int.le_refl _) c⟩
      rw [hDn] at hm ⊢
      exact ⟨hm.1, fun t' fm' h0 hf' ho => hm.2 t' fm' h0 hf' (by omega)⟩
  · intro m hm
    obtain ⟨hkm, ev, ea, eW, er, m14, _, _⟩ := fr m _ _ hm
    refine vc_X11_walks_2 ?_
    rw [m14, es]
    refine ⟨rr (by omega), rr (by omega), fun _ => hR m ?_, fun c => absurd (Int.le_refl _) c⟩
    rw [hDn] at hm
    refine ⟨fun t fm t0 t1 hf => ?_, hm.1⟩
    rw [ea] at t1 hf
    rw [ea, ev, eW, er]
    exact hm.2 t fm t0 hf (Or.inl (by omega))
theorem ct_X11_walks : Ct mX11_walks 1 22 0 0 (nrmS S_X11_walks) := by
  refine ct_vm (own := RX11) (by decide +kernel) rfl ?_ ?_
  · intro as μ Q hS
    unfold S_X11_walks at hS
    split at hS
    · exact Nat.le_of_ble_eq_true rfl
    · exact hS.elim
  · intro as μ R hS
    unfold S_X11_walks at hS
    split at hS
    · exact body_X11_walks hS.1 hS.2
    · exact hS.elim
def P_X11_allCellars (o : Int) (_ : Mem) : Prop := o = 201
def F_X11_allCellars (_ : Int) (μ : Mem) : Int := bshl 1 (μ 201 14) - 1
def S_X11_allCellars : S0t := fun as μ Q => match as with
  | [(2, x0)] => P_X11_allCellars x0 μ ∧ Q μ (some (kI (F_X11_allCellars x0 μ)))
  | _ => False
theorem mono_X11_allCellars : Mono S_X11_allCellars := by
  intro as μ Q Q' h hS
  unfold S_X11_allCellars at hS ⊢
  split at hS
  · exact ⟨hS.1, h _ _ hS.2⟩
  · exact hS.elim
def iX11_allCellars : Inf := (kX11_allCellars, fTX11, pTX11, cTX11, lTX11, sTX11, [])
theorem ok_X11_allCellars : infOK iX11_allCellars mX11_allCellars RX11 0 0 := ⟨kkX11_allCellars, fTX11_ok, pTX11_ok _, cTX11_ok, lTX11_ok, sTX11_ok, c_nil⟩
theorem mt_X11_allCellars : mtOK [] RX11 0 0 := mt_nil
abbrev V_X11_allCellars (R : Mem → Option AV → Prop) (pc : Nat) (lc : List (Nat × AV)) (μ : Mem) : Prop := VM mX11_allCellars RX11 0 0 R pc lc [] μ
set_option maxRecDepth 20000 in
theorem vc_X11_allCellars_0 {R : Mem → Option AV → Prop} {μ : Mem} (H : R μ (some (kI ((bshl 1 (μ 201 14)) - 1)))) : V_X11_allCellars R 0 [(0, kR 201)] μ := by
  refine vm_step2 mt_X11_allCellars ok_X11_allCellars [] 1000 ?_
  show isC 201 11 ∧ R μ (some (kI ((bshl 1 (μ 201 14)) - 1)))
  exact ⟨c_201, H⟩
theorem body_X11_allCellars {o : Int} {μ : Mem} {R : Mem → Option AV → Prop} (h : P_X11_allCellars o μ) (hR : R μ (some (kI (F_X11_allCellars o μ)))) : V_X11_allCellars R 0 [(0, kR o)] μ := by
  have h : o = 201 := h
  subst h
  exact vc_X11_allCellars_0 hR
theorem allC {μ : Mem} (h : WKb μ) : F_X11_allCellars 201 μ = ((2 ^ (popc (awM μ)).toNat : Nat) : Int) - 1 := by
  have f := h.f
  unfold F_X11_allCellars
  rw [h.2.1.1, b_shl (by omega) (by omega)]
theorem ct_X11_allCellars : Ct mX11_allCellars 0 0 0 0 (nrmS S_X11_allCellars) := by
  refine ct_vm (own := RX11) (by decide +kernel) rfl ?_ ?_
  · intro as μ Q hS
    unfold S_X11_allCellars at hS
    split at hS
    · exact Nat.le_of_ble_eq_true rfl
    · exact hS.elim
  · intro as μ R hS
    unfold S_X11_allCellars at hS
    split at hS
    · exact body_X11_allCellars hS.1 hS.2
    · exact hS.elim
def P_X11_stopOf (o k : Int) (μ : Mem) : Prop := o = 201 ∧ WKb μ ∧ LSm μ ∧ r32 k
def F_X11_stopOf (_ k : Int) (μ : Mem) : Int := stopV (Wm μ) (rm μ) (vm μ 0 0) (awM μ) k
def S_X11_stopOf : S0t := fun as μ Q => match as with
  | [(2, x0), (0, x1)] => P_X11_stopOf x0 x1 μ ∧ Q μ (some (kI (F_X11_stopOf x0 x1 μ)))
  | _ => False
theorem mono_X11_stopOf : Mono S_X11_stopOf := by
  intro as μ Q Q' h hS
  unfold S_X11_stopOf at hS ⊢
  split at hS
  · exact ⟨hS.1, h _ _ hS.2⟩
  · exact hS.elim
def iX11_stopOf : Inf := (kX11_stopOf, fTX11, pTX11, cTX11, lTX11, sTX11, [(250, 0, 0, 11, S_X11_allCellars), (247, 0, 2, 11, S_X11_between)])
theorem ok_X11_stopOf : infOK iX11_stopOf mX11_stopOf RX11 1 22 := ⟨kkX11_stopOf, fTX11_ok, pTX11_ok _, cTX11_ok, lTX11_ok, sTX11_ok, c_cons ⟨mX11_allCellars, 0, 0, ct_X11_allCellars, mmX11_allCellars, vvX11_allCellars, lkX11_250, ⟨by decide, by decide⟩, ⟨_, _, rfl⟩, by decide, mono_X11_allCellars⟩ (c_cons ⟨mX11_between, 0, 0, ct_X11_between, mmX11_between, vvX11_between, lkX11_247, ⟨by decide, by decide⟩, ⟨_, _, rfl⟩, by decide, mono_X11_between⟩ (c_nil))⟩
theorem mt_X11_stopOf : mtOK [] RX11 1 22 := mt_nil
abbrev V_X11_stopOf (R : Mem → Option AV → Prop) (pc : Nat) (lc : List (Nat × AV)) (μ : Mem) : Prop := VM mX11_stopOf RX11 1 22 R pc lc [] μ
set_option maxRecDepth 20000 in
theorem vc_X11_stopOf_0 {R : Mem → Option AV → Prop} {k : Int} {μ : Mem} (H : P_X11_allCellars 201 μ ∧ V_X11_stopOf R 11 [(0, kR 201), (1, kI k), (2, kI (F_X11_allCellars 201 μ)), (3, kI 7), (4, kI 0)] μ) : V_X11_stopOf R 0 [(0, kR 201), (1, kI k)] μ := by
  refine vm_step2 mt_X11_stopOf ok_X11_stopOf [(11, [0, 1, 2, 3, 4]), (18, [0, 1, 2, 3, 4, 5])] 1000 ?_
  show isC 201 11 ∧ P_X11_allCellars 201 μ ∧ V_X11_stopOf R 11 [(0, kR 201), (1, kI k), (2, kI (F_X11_allCellars 201 μ)), (3, kI 7), (4, kI 0)] μ
  exact ⟨c_201, H.1, H.2⟩
set_option maxRecDepth 20000 in
theorem vc_X11_stopOf_11 {R : Mem → Option AV → Prop} {k s fm i : Int} {μ : Mem} (H : r32 s ∧ ((s = 0) → R μ (some (kI (-1)))) ∧ (¬ (s = 0) → V_X11_stopOf R 18 [(0, kR 201), (1, kI k), (2, kI s), (3, kI fm), (4, kI i), (5, kI 0)] μ)) : V_X11_stopOf R 11 [(0, kR 201), (1, kI k), (2, kI s), (3, kI fm), (4, kI i)] μ := by
  refine vm_step2 mt_X11_stopOf ok_X11_stopOf [(11, [0, 1, 2, 3, 4]), (18, [0, 1, 2, 3, 4, 5])] 1000 ?_
  show r32 s ∧ ((s = 0) → R μ (some (kI (-1)))) ∧ (¬ (s = 0) → V_X11_stopOf R 18 [(0, kR 201), (1, kI k), (2, kI s), (3, kI fm), (4, kI i), (5, kI 0)] μ)
  exact ⟨H.1, fun hc1 => (H.2.1 hc1), fun hc1 => (H.2.2 hc1)⟩
set_option maxRecDepth 20000 in
theorem vc_X11_stopOf_18 {R : Mem → Option AV → Prop} {k s fm i to_ : Int} {μ : Mem} (H : r32 (band (bshr s to_) 1) ∧ (((band (bshr s to_) 1) = 0) → V_X11_stopOf R 18 [(0, kR 201), (1, kI k), (2, kI s), (3, kI fm), (4, kI i), (5, kI (to_ + 1))] μ) ∧ (¬ ((band (bshr s to_) 1) = 0) → P_X11_between 201 fm to_ μ ∧ (0 ≤ s ∧ s < 128) ∧ (0 ≤ ((8 * (band s (bxor (bshl 1 to_) (-1)))) + to_) ∧ ((8 * (band s (bxor (bshl 1 to_) (-1)))) + to_) < 1024) ∧ (0 ≤ ((8 * s) + fm) ∧ ((8 * s) + fm) < 1024) ∧ r32 (((F_X11_between 201 fm to_ μ) * (μ 207 s)) + (μ 208 ((8 * (band s (bxor (bshl 1 to_) (-1)))) + to_))) ∧ r32 (μ 208 ((8 * s) + fm)) ∧ (((((F_X11_between 201 fm to_ μ) * (μ 207 s)) + (μ 208 ((8 * (band s (bxor (bshl 1 to_) (-1)))) + to_))) = (μ 208 ((8 * s) + fm))) → r32 i ∧ r32 k ∧ ((¬ i = k) → V_X11_stopOf R 11 [(0, kR 201), (1, kI k), (2, kI (band s (bxor (bshl 1 to_) (-1)))), (3, kI to_), (4, kI (i + 1))] μ) ∧ (¬ (¬ i = k) → (0 ≤ to_ ∧ to_ < 7) ∧ R μ (some (kI (μ 205 to_))))) ∧ (¬ ((((F_X11_between 201 fm to_ μ) * (μ 207 s)) + (μ 208 ((8 * (band s (bxor (bshl 1 to_) (-1)))) + to_))) = (μ 208 ((8 * s) + fm))) → V_X11_stopOf R 18 [(0, kR 201), (1, kI k), (2, kI s), (3, kI fm), (4, kI i), (5, kI (to_ + 1))] μ))) : V_X11_stopOf R 18 [(0, kR 201), (1, kI k), (2, kI s), (3, kI fm), (4, kI i), (5, kI to_)] μ := by
  refine vm_step2 mt_X11_stopOf ok_X11_stopOf [(11, [0, 1, 2, 3, 4]), (18, [0, 1, 2, 3, 4, 5])] 1000 ?_
  show r32 (band (bshr s to_) 1) ∧ (((band (bshr s to_) 1) = 0) → V_X11_stopOf R 18 [(0, kR 201), (1, kI k), (2, kI s), (3, kI fm), (4, kI i), (5, kI (to_ + 1))] μ) ∧ (¬ ((band (bshr s to_) 1) = 0) → isC 201 11 ∧ P_X11_between 201 fm to_ μ ∧ isC 201 11 ∧ inA 207 0 s ∧ isC 201 11 ∧ inA 208 0 ((8 * (band s (bxor (bshl 1 to_) (-1)))) + to_) ∧ isC 201 11 ∧ inA 208 0 ((8 * s) + fm) ∧ (r32 (((F_X11_between 201 fm to_ μ) * (μ 207 s)) + (μ 208 ((8 * (band s (bxor (bshl 1 to_) (-1)))) + to_))) ∧ r32 (μ 208 ((8 * s) + fm))) ∧ (((((F_X11_between 201 fm to_ μ) * (μ 207 s)) + (μ 208 ((8 * (band s (bxor (bshl 1 to_) (-1)))) + to_))) = (μ 208 ((8 * s) + fm))) → (r32 i ∧ r32 k) ∧ ((¬ i = k) → V_X11_stopOf R 11 [(0, kR 201), (1, kI k), (2, kI (band s (bxor (bshl 1 to_) (-1)))), (3, kI to_), (4, kI (i + 1))] μ) ∧ (¬ (¬ i = k) → isC 201 11 ∧ inA 205 0 to_ ∧ R μ (some (kI (μ 205 to_))))) ∧ (¬ ((((F_X11_between 201 fm to_ μ) * (μ 207 s)) + (μ 208 ((8 * (band s (bxor (bshl 1 to_) (-1)))) + to_))) = (μ 208 ((8 * s) + fm))) → V_X11_stopOf R 18 [(0, kR 201), (1, kI k), (2, kI s), (3, kI fm), (4, kI i), (5, kI (to_ + 1))] μ))
  exact ⟨H.1, fun hc4 => (H.2.1 hc4), fun hc4 => ⟨c_201, (H.2.2 hc4).1, ⟨c_201, ⟨isArr.in a_207 (H.2.2 hc4).2.1.1 (H.2.2 hc4).2.1.2, ⟨c_201, ⟨isArr.in a_208 (H.2.2 hc4).2.2.1.1 (H.2.2 hc4).2.2.1.2, ⟨c_201, ⟨isArr.in a_208 (H.2.2 hc4).2.2.2.1.1 (H.2.2 hc4).2.2.2.1.2, ⟨⟨(H.2.2 hc4).2.2.2.2.1, (H.2.2 hc4).2.2.2.2.2.1⟩, fun hc3 => ⟨⟨((H.2.2 hc4).2.2.2.2.2.2.1 hc3).1, ((H.2.2 hc4).2.2.2.2.2.2.1 hc3).2.1⟩, fun hc2 => (((H.2.2 hc4).2.2.2.2.2.2.1 hc3).2.2.1 hc2), fun hc2 => ⟨c_201, ⟨isArr.in a_205 (((H.2.2 hc4).2.2.2.2.2.2.1 hc3).2.2.2 hc2).1.1 (((H.2.2 hc4).2.2.2.2.2.2.1 hc3).2.2.2 hc2).1.2, (((H.2.2 hc4).2.2.2.2.2.2.1 hc3).2.2.2 hc2).2⟩⟩⟩, fun hc3 => ((H.2.2 hc4).2.2.2.2.2.2.2 hc3)⟩⟩⟩⟩⟩⟩⟩⟩⟩
theorem body_X11_stopOf {o k : Int} {μ : Mem} {R : Mem → Option AV → Prop} (h : P_X11_stopOf o k μ) (hR : R μ (some (kI (F_X11_stopOf o k μ)))) : V_X11_stopOf R 0 [(0, kR o), (1, kI k)] μ := by
  obtain ⟨rfl, hk, hl, rk⟩ := h
  have f := hk.f
  have p2 := pw2_7 f.2.1.1 f.2.1.2
  have p1 := pw2_le f.2.1.1 (by omega)
  have eall := ex_all (s := awM μ) f.2.2.1.1 f.2.2.1.2
  have rin := rtV_in (W := Wm μ) (r := rm μ) (n := vm μ 0 0) (g := awM μ) (by omega) f.1.2 f.2.2.1.1 f.2.2.1.2 f.2.2.2.1
  unfold F_X11_stopOf at hR
  -- what stands after i stops
  refine vc_X11_stopOf_0 ⟨rfl, ?_⟩
  rw [allC hk]
  refine up_ind (P := fun i => ∀ t fm : Int, (0 ≤ t ∧ t < ((2 ^ (popc (awM μ)).toNat : Nat) : Int)) → (fm = 7 ∨ (0 ≤ fm ∧ fm < popc (awM μ))) → rtV (Wm μ) (rm μ) (vm μ 0 0) (awM μ) i = (plF (awM μ) fm, exS (awM μ) t) → (k < 0 ∨ i ≤ k) → V_X11_stopOf R 11 [(0, kR 201), (1, kI k), (2, kI t), (3, kI fm), (4, kI i)] μ) (lo := 0) (hi := popc (awM μ)) ?_ ?_ 0 (by omega) (by omega) _ 7 (by omega) (Or.inl rfl) (by rw [eall]; rfl) (by omega)
  · intro i i0 i1 ih t fm ht hf hrt hik
    have ri := rin i.toNat (by omega)
    rw [Int.toNat_of_nonneg i0, hrt] at ri
    have tn : t ≠ 0 := fun q => by
      have h4 : popc (exS (awM μ) t) = popc (awM μ) - i := ri.2.2.2
      rw [q, ex_0, popc_0] at h4
      omega
    have hpl := hk.pl hf
    have rl0 := rc_lst (W := Wm μ) (r := rm μ) (n := vm μ 0 0) (s := awM μ) (t := t) (fm := plF (awM μ) fm) (by omega) f.1.2 f.2.2.2.1 ht.1 tn ht.2
    have eg : (fun k => Wm μ (plF (awM μ) fm) (mthV (awM μ) k) * rm μ (exS (awM μ) t) + rcV (Wm μ) (rm μ) (vm μ 0 0) (mthV (awM μ) k) (exS (awM μ) (remS t k))) = stG μ (plF (awM μ) fm) t := rfl
    rw [eg] at rl0
    have e8f := hl t fm ht.1 ht.2 hf
    have gb := fun k k0 k1 => stG_bd (t := t) (k := k) hk hpl.1 hpl.2 k0 k1
    have rcb := hk.rc (fm := plF (awM μ) fm) (s := exS (awM μ) t) ex_bd.1 ex_bd.2 hpl.1 hpl.2
    rcases mnF_cases (q := hasB t) (f := stG μ (plF (awM μ) fm) t) (n := popc (awM μ)) f.2.1.1 with ⟨e, _⟩ | ⟨j, hj, e, hjb, hmin, hfirst⟩
    · have := rl0.2.1.1
      rw [e] at this
      exact absurd this (by decide)
    rw [e] at rl0
    obtain ⟨r1, r2, r3⟩ := rl0
    have r1' : stG μ (plF (awM μ) fm) t j = rcV (Wm μ) (rm μ) (vm μ 0 0) (plF (awM μ) fm) (exS (awM μ) t) := r1
    have r3' : (rcS (Wm μ) (rm μ) (vm μ 0 0) (rcV (Wm μ) (rm μ) (vm μ 0 0)) (plF (awM μ) fm) (exS (awM μ) t)).2 = mthV (awM μ) j := r3
    refine vc_X11_stopOf_11 ⟨rr (by omega), fun c => absurd c tn, fun _ => ?_⟩
    have step : ∀ to : Int, 0 ≤ to → to < popc (awM μ) → ((hasB t to = false → V_X11_stopOf R 18 [(0, kR 201), (1, kI k), (2, kI t), (3, kI fm), (4, kI i), (5, kI (to + 1))] μ) ∧ (hasB t to = true → ((stG μ (plF (awM μ) fm) t to = rcV (Wm μ) (rm μ) (vm μ 0 0) (plF (awM μ) fm) (exS (awM μ) t)) → r32 i ∧ r32 k ∧ ((¬ i = k) → V_X11_stopOf R 11 [(0, kR 201), (1, kI k), (2, kI (remS t to)), (3, kI to), (4, kI (i + 1))] μ) ∧ (¬ (¬ i = k) → (0 ≤ to ∧ to < 7) ∧ R μ (some (kI (μ 205 to))))) ∧ (¬ (stG μ (plF (awM μ) fm) t to = rcV (Wm μ) (rm μ) (vm μ 0 0) (plF (awM μ) fm) (exS (awM μ) t)) → V_X11_stopOf R 18 [(0, kR 201), (1, kI k), (2, kI t), (3, kI fm), (4, kI i), (5, kI (to + 1))] μ))) → V_X11_stopOf R 18 [(0, kR 201), (1, kI k), (2, kI t), (3, kI fm), (4, kI i), (5, kI to)] μ := by
      intro to t0 t1 hyp
      have et := b_tst (s := t) (a := to) ht.1 (by omega) t0 (by omega)
      have erem := b_rem (s := t) (a := to) ht.1 (by omega) t0 (by omega)
      have bet := bet_ok hk (fm := fm) (to := to) hf t0 t1
      refine vc_X11_stopOf_18 ?_
      rw [et]
      by_cases hbit : hasB t to = true
      · have rb := rem_bd (s := t) (a := to) ht.1
        have rl' := rem_lt ht.1 t0 hbit
        have e8 := hl (remS t to) to rb.1 (by omega) (Or.inr ⟨t0, t1⟩)
        have ev8 : plF (awM μ) to = mthV (awM μ) to := by unfold plF; rw [if_neg (by omega)]
        rw [if_pos hbit, erem, bet.2, e8, ev8, ← rm_ex ht.1 ht.2, e8f]
        have gbk := gb to t0 t1
        exact ⟨rr (by omega), fun c => absurd c (by omega), fun _ => ⟨bet.1, by omega, by omega, by omega, rr (show -2147483648 ≤ stG μ (plF (awM μ) fm) t to ∧ stG μ (plF (awM μ) fm) t to ≤ 2147483647 by omega), rr (by omega), (hyp.2 hbit).1, (hyp.2 hbit).2⟩⟩
      · have hb' : hasB t to = false := by simpa using hbit
        rw [if_neg hbit]
        exact ⟨rr (by omega), fun _ => hyp.1 hb', fun c => absurd rfl c⟩
    refine up_ind (P := fun to => V_X11_stopOf R 18 [(0, kR 201), (1, kI k), (2, kI t), (3, kI fm), (4, kI i), (5, kI to)] μ) (lo := 0) (hi := j) ?_ ?_ 0 (by omega) hj.1
    · intro to t0 t1 iht
      refine step to t0 (by omega) ⟨fun _ => iht, fun hbit => ⟨fun q => ?_, fun _ => iht⟩⟩
      have := hfirst to t0 t1 hbit
      rw [r1', q] at this
      exact absurd this (Int.lt_irrefl _)
    · refine step j hj.1 hj.2 ⟨fun q => absurd q (by rw [hjb]; decide), fun _ => ⟨fun _ => ⟨rr (by omega), rk, fun q => ?_, fun q => ⟨by omega, r_eq hR ?_⟩⟩, fun q => absurd r1' q⟩⟩
      · have rb := rem_bd (s := t) (a := j) ht.1
        refine ih (remS t j) j (by omega) (Or.inr hj) ?_ (by omega)
        rw [rtV_s i0, hrt]
        unfold stpV
        rw [r3', ex_rem hj.1 hj.2]
        have : plF (awM μ) j = mthV (awM μ) j := by unfold plF; rw [if_neg (by omega)]
        rw [this]
      · have hik' : i = k := Classical.byContradiction q
        unfold stopV
        rw [← hik', if_pos ⟨i0, i1⟩, rtV_s i0, hrt]
        unfold stpV
        rw [r3', hk.2.1.2 j hj.1 hj.2]
  · intro t fm ht hf hrt hik
    have ri := rin (popc (awM μ)).toNat (by omega)
    rw [Int.toNat_of_nonneg f.2.1.1, hrt] at ri
    have t0 : t = 0 := by
      have h4 : popc (exS (awM μ) t) = popc (awM μ) - popc (awM μ) := ri.2.2.2
      have h5 := popc_zero (s := exS (awM μ) t) ex_bd.1 ex_bd.2 (by omega)
      refine Classical.byContradiction fun q => ?_
      have := ex_mono (s := awM μ) (t := 0) (t' := t) (by omega) (by omega) ht.2
      rw [ex_0] at this
      omega
    refine vc_X11_stopOf_11 ⟨rr (by omega), fun _ => r_eq hR ?_, fun q => absurd t0 q⟩
    unfold stopV
    rw [if_neg (by omega)]
theorem ct_X11_stopOf : Ct mX11_stopOf 1 22 0 0 (nrmS S_X11_stopOf) := by
  refine ct_vm (own := RX11) (by decide +kernel) rfl ?_ ?_
  · intro as μ Q hS
    unfold S_X11_stopOf at hS
    split at hS
    · exact Nat.le_of_ble_eq_true rfl
    · exact hS.elim
  · intro as μ R hS
    unfold S_X11_stopOf at hS
    split at hS
    · exact body_X11_stopOf hS.1 hS.2
    · exact hS.elim
def P_X11_byChances (o : Int) (μ : Mem) : Prop := o = 201 ∧ LK μ
def Q_X11_byChances (_ : Int) (μ μ' : Mem) : Prop := (∀ t : Int, 0 ≤ t → t < ((2 ^ (popc (awM μ)).toNat : Nat) : Int) → μ' 207 t = sumV (vm μ) (exS (awM μ) t)) ∧ ∀ z : Int, z ≠ 207 → μ' z = μ z
def S_X11_byChances : S0t := fun as μ Q => match as with
  | [(2, x0)] => P_X11_byChances x0 μ ∧ ∀ (μ' : Mem) , Q_X11_byChances x0 μ μ'  → Q μ' none
  | _ => False
theorem mono_X11_byChances : Mono S_X11_byChances := by
  intro as μ Q Q' h hS
  unfold S_X11_byChances at hS ⊢
  split at hS
  · exact ⟨hS.1, fun μ' q => h _ _ (hS.2 _ q)⟩
  · exact hS.elim
def iX11_byChances : Inf := (kX11_byChances, fTX11, pTX11, cTX11, lTX11, sTX11, [(209, 0, 1, 11, S_X11_of)])
theorem ok_X11_byChances : infOK iX11_byChances mX11_byChances RX11 1 21 := ⟨kkX11_byChances, fTX11_ok, pTX11_ok _, cTX11_ok, lTX11_ok, sTX11_ok, c_cons ⟨mX11_of, 0, 0, ct_X11_of, mmX11_of, vvX11_of, lkX11_209, ⟨by decide, by decide⟩, ⟨_, _, rfl⟩, by decide, mono_X11_of⟩ (c_nil)⟩
theorem mt_X11_byChances : mtOK [] RX11 1 21 := mt_nil
abbrev V_X11_byChances (R : Mem → Option AV → Prop) (pc : Nat) (lc : List (Nat × AV)) (μ : Mem) : Prop := VM mX11_byChances RX11 1 21 R pc lc [] μ
set_option maxRecDepth 20000 in
theorem vc_X11_byChances_0 {R : Mem → Option AV → Prop} {μ : Mem} (H : V_X11_byChances R 2 [(0, kR 201), (1, kI 0)] μ) : V_X11_byChances R 0 [(0, kR 201)] μ := by
  refine vm_step2 mt_X11_byChances ok_X11_byChances [(2, [0, 1]), (19, [0, 1]), (21, [0, 1, 2]), (64, [0, 1, 2])] 1000 ?_
  show V_X11_byChances R 2 [(0, kR 201), (1, kI 0)] μ
  exact H
set_option maxRecDepth 20000 in
theorem vc_X11_byChances_2 {R : Mem → Option AV → Prop} {s : Int} {μ : Mem} (H : r32 s ∧ r32 (bshl 1 (μ 201 14)) ∧ (((bshl 1 (μ 201 14)) ≤ s) → R μ none) ∧ (¬ ((bshl 1 (μ 201 14)) ≤ s) → (0 ≤ s ∧ s < 128) ∧ V_X11_byChances R 19 [(0, kR 201), (1, kI s)] (updm μ 207 s 0))) : V_X11_byChances R 2 [(0, kR 201), (1, kI s)] μ := by
  refine vm_step2 mt_X11_byChances ok_X11_byChances [(2, [0, 1]), (19, [0, 1]), (21, [0, 1, 2]), (64, [0, 1, 2])] 1000 ?_
  show isC 201 11 ∧ (r32 s ∧ r32 (bshl 1 (μ 201 14))) ∧ (((bshl 1 (μ 201 14)) ≤ s) → R μ none) ∧ (¬ ((bshl 1 (μ 201 14)) ≤ s) → isC 201 11 ∧ inA 207 0 s ∧ V_X11_byChances R 19 [(0, kR 201), (1, kI s)] (updm μ 207 s 0))
  exact ⟨c_201, ⟨⟨H.1, H.2.1⟩, fun hc1 => (H.2.2.1 hc1), fun hc1 => ⟨c_201, ⟨isArr.in a_207 (H.2.2.2 hc1).1.1 (H.2.2.2 hc1).1.2, (H.2.2.2 hc1).2⟩⟩⟩⟩
set_option maxRecDepth 20000 in
theorem vc_X11_byChances_19 {R : Mem → Option AV → Prop} {s : Int} {μ : Mem} (H : V_X11_byChances R 21 [(0, kR 201), (1, kI s), (2, kI 0)] μ) : V_X11_byChances R 19 [(0, kR 201), (1, kI s)] μ := by
  refine vm_step2 mt_X11_byChances ok_X11_byChances [(2, [0, 1]), (19, [0, 1]), (21, [0, 1, 2]), (64, [0, 1, 2])] 1000 ?_
  show V_X11_byChances R 21 [(0, kR 201), (1, kI s), (2, kI 0)] μ
  exact H
set_option maxRecDepth 20000 in
theorem vc_X11_byChances_21 {R : Mem → Option AV → Prop} {s k : Int} {μ : Mem} (H : r32 k ∧ r32 (μ 201 14) ∧ (((μ 201 14) ≤ k) → V_X11_byChances R 2 [(0, kR 201), (1, kI (s + 1))] μ) ∧ (¬ ((μ 201 14) ≤ k) → (0 ≤ s ∧ s < 128) ∧ r32 (band (bshr s k) 1) ∧ ((¬ (band (bshr s k) 1) = (1 : Int)) → (0 ≤ s ∧ s < 128) ∧ V_X11_byChances R 64 [(0, kR 201), (1, kI s), (2, kI k)] (updm μ 207 s ((μ 207 s) + 0))) ∧ (¬ (¬ (band (bshr s k) 1) = (1 : Int)) → (0 ≤ k ∧ k < 7) ∧ P_X11_of 201 (10 + (μ 205 k)) μ ∧ (0 ≤ s ∧ s < 128) ∧ V_X11_byChances R 64 [(0, kR 201), (1, kI s), (2, kI k)] (updm μ 207 s ((μ 207 s) + (F_X11_of 201 (10 + (μ 205 k)) μ)))))) : V_X11_byChances R 21 [(0, kR 201), (1, kI s), (2, kI k)] μ := by
  refine vm_step2 mt_X11_byChances ok_X11_byChances [(2, [0, 1]), (19, [0, 1]), (21, [0, 1, 2]), (64, [0, 1, 2])] 1000 ?_
  show isC 201 11 ∧ (r32 k ∧ r32 (μ 201 14)) ∧ (((μ 201 14) ≤ k) → V_X11_byChances R 2 [(0, kR 201), (1, kI (s + 1))] μ) ∧ (¬ ((μ 201 14) ≤ k) → isC 201 11 ∧ inA 207 0 s ∧ (r32 (band (bshr s k) 1) ∧ r32 (1 : Int)) ∧ ((¬ (band (bshr s k) 1) = (1 : Int)) → inA 207 0 s ∧ V_X11_byChances R 64 [(0, kR 201), (1, kI s), (2, kI k)] (updm μ 207 s ((μ 207 s) + 0))) ∧ (¬ (¬ (band (bshr s k) 1) = (1 : Int)) → isC 201 11 ∧ inA 205 0 k ∧ isC 201 11 ∧ P_X11_of 201 (10 + (μ 205 k)) μ ∧ inA 207 0 s ∧ V_X11_byChances R 64 [(0, kR 201), (1, kI s), (2, kI k)] (updm μ 207 s ((μ 207 s) + (F_X11_of 201 (10 + (μ 205 k)) μ)))))
  exact ⟨c_201, ⟨⟨H.1, H.2.1⟩, fun hc3 => (H.2.2.1 hc3), fun hc3 => ⟨c_201, ⟨isArr.in a_207 (H.2.2.2 hc3).1.1 (H.2.2.2 hc3).1.2, ⟨⟨(H.2.2.2 hc3).2.1, by unfold r32; omega⟩, fun hc2 => ⟨isArr.in a_207 ((H.2.2.2 hc3).2.2.1 hc2).1.1 ((H.2.2.2 hc3).2.2.1 hc2).1.2, ((H.2.2.2 hc3).2.2.1 hc2).2⟩, fun hc2 => ⟨c_201, ⟨isArr.in a_205 ((H.2.2.2 hc3).2.2.2 hc2).1.1 ((H.2.2.2 hc3).2.2.2 hc2).1.2, ⟨c_201, ((H.2.2.2 hc3).2.2.2 hc2).2.1, ⟨isArr.in a_207 ((H.2.2.2 hc3).2.2.2 hc2).2.2.1.1 ((H.2.2.2 hc3).2.2.2 hc2).2.2.1.2, ((H.2.2.2 hc3).2.2.2 hc2).2.2.2⟩⟩⟩⟩⟩⟩⟩⟩⟩
set_option maxRecDepth 20000 in
theorem vc_X11_byChances_64 {R : Mem → Option AV → Prop} {s k : Int} {μ : Mem} (H : V_X11_byChances R 21 [(0, kR 201), (1, kI s), (2, kI (k + 1))] μ) : V_X11_byChances R 64 [(0, kR 201), (1, kI s), (2, kI k)] μ := by
  refine vm_step2 mt_X11_byChances ok_X11_byChances [(2, [0, 1]), (19, [0, 1]), (21, [0, 1, 2]), (64, [0, 1, 2])] 1000 ?_
  show V_X11_byChances R 21 [(0, kR 201), (1, kI s), (2, kI (k + 1))] μ
  exact H
theorem sum_ex {v : TV} {s t : Int} : sm (fun k => if hasB t k = true then v 4 (mthV s k) else 0) (popc s) = sumV v (exS s t) := by
  have e1 : sm (fun k => if hasB t k = true then v 4 (mthV s k) else 0) (popc s) = sm (fun k => (fun a => if hasB t (cntB s a) = true then v 4 a else 0) (mthV s k)) (popc s) := sm_congr fun k k0 k1 => by
    show _ = if hasB t (cntB s (mthV s k)) = true then v 4 (mthV s k) else 0
    rw [mth_cnt k0 k1]
  rw [e1]
  refine (lst_sum8 (g := fun a => if hasB t (cntB s a) = true then v 4 a else 0) (s := s)).trans ?_
  unfold sumV
  refine sm_congr fun a a0 a1 => ?_
  rw [ex_has a0, decide_eq_true a1, Bool.true_and]
  by_cases c : hasB s a = true
  · rw [if_pos c, c, Bool.true_and]
  · have c' : hasB s a = false := by simpa using c
    rw [if_neg c, c', Bool.false_and, if_neg (by decide)]
theorem body_X11_byChances {o : Int} {μ : Mem} {R : Mem → Option AV → Prop} (h : P_X11_byChances o μ) (hR : ∀ μ' : Mem, Q_X11_byChances o μ μ' → R μ' none) : V_X11_byChances R 0 [(0, kR o)] μ := by
  obtain ⟨rfl, hl⟩ := h
  have hb := hl.1
  have ok := hb.v
  have pb := popc_bd (s := awM μ)
  have p7 : popc (awM μ) ≤ 7 := away_7 ok
  have p2 := pw2_7 pb.1 p7
  have p1 := pw2_le pb.1 pb.2
  have es := b_shl (k := popc (awM μ)) (by omega) (by omega)
  have e14 : μ 201 14 = popc (awM μ) := hl.2.2.1
  have e205 : ∀ k : Int, 0 ≤ k → k < popc (awM μ) → μ 205 k = mthV (awM μ) k := hl.2.2.2
  refine vc_X11_byChances_0 ?_
  refine up_ind (P := fun t => ∀ m : Mem, (∀ z : Int, z ≠ 207 → m z = μ z) → (∀ t' : Int, 0 ≤ t' → t' < t → m 207 t' = sumV (vm μ) (exS (awM μ) t')) → V_X11_byChances R 2 [(0, kR 201), (1, kI t)] m) (lo := 0) (hi := ((2 ^ (popc (awM μ)).toNat : Nat) : Int)) ?_ ?_ 0 (by omega) (by omega) μ (fun _ _ => rfl) (fun t' h0 h1 => absurd h1 (by omega))
  · intro t t0 t1 ih m hz hm
    have m14 : m 201 14 = popc (awM μ) := by rw [hz 201 (by omega), e14]
    refine vc_X11_byChances_2 ?_
    rw [m14, es]
    refine ⟨rr (by omega), rr (by omega), fun c => absurd c (by omega), fun _ => ⟨by omega, ?_⟩⟩
    obtain ⟨m1, e1⟩ : ∃ x, x = updm m 207 t 0 := ⟨_, rfl⟩
    rw [← e1]
    refine vc_X11_byChances_19 ?_
    refine up_ind (P := fun k => ∀ m1 : Mem, (∀ z : Int, z ≠ 207 → m1 z = μ z) → (∀ t' : Int, t' ≠ t → m1 207 t' = m 207 t') → m1 207 t = sm (fun k => if hasB t k = true then vm μ 4 (mthV (awM μ) k) else 0) k → V_X11_byChances R 21 [(0, kR 201), (1, kI t), (2, kI k)] m1) (lo := 0) (hi := popc (awM μ)) ?_ ?_ 0 (by omega) pb.1 m1 (fun z hz' => by rw [e1, ru_ne hz', hz z hz']) (fun t' h => by rw [e1, ru_eq, r1_ne h]) (by rw [e1, ru_eq, r1_eq]; rfl)
    · intro k k0 k1 ihk m2 hz2 ho hs
      have n14 : m2 201 14 = popc (awM μ) := by rw [hz2 201 (by omega), e14]
      have n5 : m2 205 k = mthV (awM μ) k := by rw [hz2 205 (by omega), e205 k k0 k1]
      have mb := MB_frame hb (hz2 202 (by omega)) (by rw [hz2 201 (by omega)]) (by rw [hz2 201 (by omega)])
      have hm4 := mth_in k0 k1
      have et := b_tst (s := t) (a := k) t0 (by omega) k0 (by omega)
      have nx : ∀ x : Int, x = m2 207 t + (if hasB t k = true then vm μ 4 (mthV (awM μ) k) else 0) → V_X11_byChances R 64 [(0, kR 201), (1, kI t), (2, kI k)] (updm m2 207 t x) := fun x hx => vc_X11_byChances_64 (ihk _ (fun z hz' => by rw [ru_ne hz', hz2 z hz']) (fun t' h => by rw [ru_eq, r1_ne h, ho t' h]) (by rw [ru_eq, r1_eq, hx, hs, sm_s k0]))
      refine vc_X11_byChances_21 ?_
      rw [n14, et, n5, of_4 hm4.1.1 hm4.1.2, mb.2]
      refine ⟨rr (by omega), rr (by omega), fun c => absurd c (by omega), fun _ => ⟨by omega, ?_⟩⟩
      by_cases hbit : hasB t k = true
      · rw [if_pos hbit]
        exact ⟨rr (by omega), fun c => absurd rfl c, fun _ => ⟨by omega, ⟨rfl, mb.1.1, by omega, by omega⟩, by omega, nx _ (by rw [if_pos hbit])⟩⟩
      · rw [if_neg hbit]
        exact ⟨rr (by omega), fun _ => ⟨by omega, nx _ (by rw [if_neg hbit])⟩, fun c => absurd (show ¬ (0 : Int) = 1 by omega) c⟩
    · intro m2 hz2 ho hs
      have n14 : m2 201 14 = popc (awM μ) := by rw [hz2 201 (by omega), e14]
      refine vc_X11_byChances_21 ?_
      rw [n14]
      refine ⟨rr (by omega), rr (by omega), fun _ => ih m2 hz2 (fun t' h0 h1 => ?_), fun c => absurd (Int.le_refl _) c⟩
      by_cases q : t' = t
      · rw [q, hs, sum_ex]
      · rw [ho t' q]; exact hm t' h0 (by omega)
  · intro m hz hm
    have m14 : m 201 14 = popc (awM μ) := by rw [hz 201 (by omega), e14]
    refine vc_X11_byChances_2 ?_
    rw [m14, es]
    exact ⟨rr (by omega), rr (by omega), fun _ => hR m ⟨hm, hz⟩, fun c => absurd (Int.le_refl _) c⟩
theorem ct_X11_byChances : Ct mX11_byChances 1 21 0 0 (nrmS S_X11_byChances) := by
  refine ct_vm (own := RX11) (by decide +kernel) rfl ?_ ?_
  · intro as μ Q hS
    unfold S_X11_byChances at hS
    split at hS
    · exact Nat.le_of_ble_eq_true rfl
    · exact hS.elim
  · intro as μ R hS
    unfold S_X11_byChances at hS
    split at hS
    · exact body_X11_byChances hS.1 hS.2
    · exact hS.elim
def P_X11_answers (o k : Int) (μ : Mem) : Prop := o = 201 ∧ WKb μ ∧ LSm μ ∧ r32 k
def F_X11_answers (_ k : Int) (μ : Mem) : Int := if k < 0 then -1 else if k = 0 then rcV (Wm μ) (rm μ) (vm μ 0 0) 0 (awM μ) else stopV (Wm μ) (rm μ) (vm μ 0 0) (awM μ) (k - 1)
def S_X11_answers : S0t := fun as μ Q => match as with
  | [(2, x0), (0, x1)] => P_X11_answers x0 x1 μ ∧ Q μ (some (kI (F_X11_answers x0 x1 μ)))
  | _ => False
theorem mono_X11_answers : Mono S_X11_answers := by
  intro as μ Q Q' h hS
  unfold S_X11_answers at hS ⊢
  split at hS
  · exact ⟨hS.1, h _ _ hS.2⟩
  · exact hS.elim
def iX11_answers : Inf := (kX11_answers, fTX11, pTX11, cTX11, lTX11, sTX11, [(253, 0, 1, 11, S_X11_stopOf), (250, 0, 0, 11, S_X11_allCellars)])
theorem ok_X11_answers : infOK iX11_answers mX11_answers RX11 2 47 := ⟨kkX11_answers, fTX11_ok, pTX11_ok _, cTX11_ok, lTX11_ok, sTX11_ok, c_cons ⟨mX11_stopOf, 1, 22, ct_X11_stopOf, mmX11_stopOf, vvX11_stopOf, lkX11_253, ⟨by decide, by decide⟩, ⟨_, _, rfl⟩, by decide, mono_X11_stopOf⟩ (c_cons ⟨mX11_allCellars, 0, 0, ct_X11_allCellars, mmX11_allCellars, vvX11_allCellars, lkX11_250, ⟨by decide, by decide⟩, ⟨_, _, rfl⟩, by decide, mono_X11_allCellars⟩ (c_nil))⟩
theorem mt_X11_answers : mtOK [] RX11 2 47 := mt_nil
abbrev V_X11_answers (R : Mem → Option AV → Prop) (pc : Nat) (lc : List (Nat × AV)) (μ : Mem) : Prop := VM mX11_answers RX11 2 47 R pc lc [] μ
set_option maxRecDepth 20000 in
theorem vc_X11_answers_0 {R : Mem → Option AV → Prop} {k : Int} {μ : Mem} (H : r32 k ∧ ((¬ k = 0) → r32 k ∧ ((0 ≤ k) → P_X11_stopOf 201 (k - 1) μ ∧ R μ (some (kI (F_X11_stopOf 201 (k - 1) μ)))) ∧ (¬ (0 ≤ k) → R μ (some (kI (-1))))) ∧ (¬ (¬ k = 0) → P_X11_allCellars 201 μ ∧ (0 ≤ ((8 * (F_X11_allCellars 201 μ)) + 7) ∧ ((8 * (F_X11_allCellars 201 μ)) + 7) < 1024) ∧ R μ (some (kI (μ 208 ((8 * (F_X11_allCellars 201 μ)) + 7)))))) : V_X11_answers R 0 [(0, kR 201), (1, kI k)] μ := by
  refine vm_step2 mt_X11_answers ok_X11_answers [] 1000 ?_
  show r32 k ∧ ((¬ k = 0) → r32 k ∧ ((0 ≤ k) → isC 201 11 ∧ P_X11_stopOf 201 (k - 1) μ ∧ R μ (some (kI (F_X11_stopOf 201 (k - 1) μ)))) ∧ (¬ (0 ≤ k) → R μ (some (kI (-1))))) ∧ (¬ (¬ k = 0) → isC 201 11 ∧ isC 201 11 ∧ P_X11_allCellars 201 μ ∧ inA 208 0 ((8 * (F_X11_allCellars 201 μ)) + 7) ∧ R μ (some (kI (μ 208 ((8 * (F_X11_allCellars 201 μ)) + 7)))))
  exact ⟨H.1, fun hc2 => ⟨(H.2.1 hc2).1, fun hc1 => ⟨c_201, ((H.2.1 hc2).2.1 hc1).1, ((H.2.1 hc2).2.1 hc1).2⟩, fun hc1 => ((H.2.1 hc2).2.2 hc1)⟩, fun hc2 => ⟨c_201, ⟨c_201, (H.2.2 hc2).1, ⟨isArr.in a_208 (H.2.2 hc2).2.1.1 (H.2.2 hc2).2.1.2, (H.2.2 hc2).2.2⟩⟩⟩⟩
theorem body_X11_answers {o k : Int} {μ : Mem} {R : Mem → Option AV → Prop} (h : P_X11_answers o k μ) (hR : R μ (some (kI (F_X11_answers o k μ)))) : V_X11_answers R 0 [(0, kR o), (1, kI k)] μ := by
  obtain ⟨rfl, hk, hl, rk⟩ := h
  have rk' : -2147483648 ≤ k ∧ k ≤ 2147483647 := rk
  have f := hk.f
  have p2 := pw2_7 f.2.1.1 f.2.1.2
  have p1 := pw2_le f.2.1.1 (by omega)
  unfold F_X11_answers at hR
  refine vc_X11_answers_0 ?_
  rw [allC hk]
  refine ⟨rk, fun c => ⟨rk, fun c2 => ⟨⟨rfl, hk, hl, rr (by omega)⟩, ?_⟩, fun c2 => ?_⟩, fun c => ⟨rfl, by omega, ?_⟩⟩
  · rw [if_neg (by omega), if_neg c] at hR
    exact hR
  · rw [if_pos (by omega)] at hR
    exact hR
  · rw [if_neg (by omega), if_pos (Classical.byContradiction c)] at hR
    refine r_eq hR ?_
    rw [hl _ 7 (by omega) (by omega) (Or.inl rfl), ex_all f.2.2.1.1 f.2.2.1.2]
    rfl
theorem ct_X11_answers : Ct mX11_answers 2 47 0 0 (nrmS S_X11_answers) := by
  refine ct_vm (own := RX11) (by decide +kernel) rfl ?_ ?_
  · intro as μ Q hS
    unfold S_X11_answers at hS
    split at hS
    · exact Nat.le_of_ble_eq_true rfl
    · exact hS.elim
  · intro as μ R hS
    unfold S_X11_answers at hS
    split at hS
    · exact body_X11_answers hS.1 hS.2
    · exact hS.elim
