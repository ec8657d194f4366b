/-! the model: the postman -/
theorem sm_shift {g : Int → Int} {m : Int} (m0 : 0 ≤ m) : ∀ k : Int, 0 ≤ k → sm g (m + k) = sm g m + sm (fun b => g (m + b)) k := by
  refine nat_ind (by rw [Int.add_zero, sm_0, Int.add_zero]) (fun k k0 ih => ?_)
  rw [show m + (k + 1) = m + k + 1 by omega, sm_s (by omega), ih, sm_s k0]
  omega
theorem sm_rows {g : Int → Int} : ∀ n : Int, 0 ≤ n → sm g (8 * n) = sm (fun a => sm (fun b => g (8 * a + b)) 8) n := by
  refine nat_ind rfl (fun n n0 ih => ?_)
  rw [show 8 * (n + 1) = 8 * n + 8 by omega, sm_shift (by omega) 8 (by omega), ih, sm_s n0]
theorem sm_sym {f : Int → Int → Int} {N : Int} (hs : ∀ a b : Int, 0 ≤ a → a < N → 0 ≤ b → b < N → f a b = f b a) (hd : ∀ a : Int, 0 ≤ a → a < N → f a a = 0) : ∀ n : Int, 0 ≤ n → n ≤ N → sm (fun a => sm (f a) n) n = 2 * sm (fun a => sm (f a) a) n := by
  refine nat_ind (P := fun n => n ≤ N → sm (fun a => sm (f a) n) n = 2 * sm (fun a => sm (f a) a) n) (fun _ => rfl) (fun n n0 ih hn => ?_)
  have e1 : sm (fun a => sm (f a) (n + 1)) n = sm (fun a => sm (f a) n) n + sm (fun a => f a n) n := by
    rw [← sm_add n0]
    exact sm_congr fun a a0 a1 => sm_s n0
  have e2 : sm (fun a => f a n) n = sm (f n) n := sm_congr fun a a0 a1 => hs a n a0 (by omega) n0 (by omega)
  rw [sm_s n0, sm_s n0, e1, ih (by omega), e2, sm_s n0, hd n n0 (by omega)]
  omega
/-- the minutes of all lanes, both ways -/
theorem all_two {v : TV} (ok : TVok v) : sm (v 7) 64 = 2 * allMinV v := by
  have hp := ok.1
  have h7 := ok.2.2.2.2.2.2.1
  have z : ∀ a b : Int, 0 ≤ a → a < 8 → v 0 0 ≤ b → b < 8 → v 7 (8 * a + b) = 0 := fun a b a0 a1 b0 b1 => by
    have q := h7 a b a0 a1 (by omega) b1
    rw [q.1]
    exact (h7 b a (by omega) b1 a0 a1).2.2 b0
  have e : sm (v 7) 64 = sm (fun a => sm (fun b => v 7 (8 * a + b)) (v 0 0)) (v 0 0) := by
    have := sm_rows (g := v 7) 8 (by omega)
    rw [show (8 : Int) * 8 = 64 from rfl] at this
    rw [this, sm_tail (n := v 0 0) (by omega) (by omega) (fun a a0 a1 => ?_)]
    · exact sm_congr fun a a0 a1 => sm_tail (by omega) (by omega) fun b b0 b1 => z a b a0 (by omega) b0 b1
    · have : sm (fun b => v 7 (8 * a + b)) 8 = sm (fun _ => 0) 8 := sm_congr fun b b0 b1 => (h7 a b (by omega) a1 b0 b1).2.2 a0
      rw [this, sm_zero (by omega)]
  have s := sm_sym (f := fun a b => v 7 (8 * a + b)) (N := v 0 0) (fun a b a0 a1 b0 b1 => (h7 a b a0 (by omega) b0 (by omega)).1) (fun a a0 a1 => (h7 a a a0 (by omega) a0 (by omega)).2.1) (v 0 0) (by omega) (Int.le_refl _)
  have m : allMinV v = sm (fun a => sm (fun b => v 7 (8 * a + b)) (v 0 0)) (v 0 0) - sm (fun a => sm (fun b => v 7 (8 * a + b)) a) (v 0 0) := by
    have e1 : allMinV v = sm (fun a => sm (fun b => v 7 (8 * a + b)) (v 0 0) - sm (fun b => v 7 (8 * a + b)) (min (a + 1) (v 0 0))) (v 0 0) := rfl
    have e2 : sm (fun a => sm (fun b => v 7 (8 * a + b)) (v 0 0) - sm (fun b => v 7 (8 * a + b)) (min (a + 1) (v 0 0))) (v 0 0) = sm (fun a => sm (fun b => v 7 (8 * a + b)) (v 0 0) - sm (fun b => v 7 (8 * a + b)) a) (v 0 0) := sm_congr fun a a0 a1 => by
      show sm (fun b => v 7 (8 * a + b)) (v 0 0) - sm (fun b => v 7 (8 * a + b)) (min (a + 1) (v 0 0)) = sm (fun b => v 7 (8 * a + b)) (v 0 0) - sm (fun b => v 7 (8 * a + b)) a
      rw [show min (a + 1) (v 0 0) = a + 1 by omega, sm_s a0, (h7 a a a0 (by omega) a0 (by omega)).2.1, Int.add_zero]
    have e3 : sm (fun a => sm (fun b => v 7 (8 * a + b)) (v 0 0)) (v 0 0) = sm (fun a => (sm (fun b => v 7 (8 * a + b)) (v 0 0) - sm (fun b => v 7 (8 * a + b)) a) + sm (fun b => v 7 (8 * a + b)) a) (v 0 0) := sm_congr fun a a0 a1 => by
      show sm (fun b => v 7 (8 * a + b)) (v 0 0) = (sm (fun b => v 7 (8 * a + b)) (v 0 0) - sm (fun b => v 7 (8 * a + b)) a) + sm (fun b => v 7 (8 * a + b)) a
      omega
    rw [sm_add (by omega)] at e3
    rw [e1, e2]
    omega
  rw [e, m]
  omega
theorem set_in {s p a : Int} (p0 : 0 ≤ p) (s0 : 0 ≤ s) (s1 : s < ((2 ^ p.toNat : Nat) : Int)) (h : hasB s a = true) : a < p :=
  Classical.byContradiction fun q => by
    rw [has_hi s0 s1 p0 (by omega)] at h
    exact absurd h (by decide)
theorem cp_bd {v : TV} (h : VOk v) {s : Int} (s0 : 0 ≤ s) (s1 : s < 256) (hs : ∀ a : Int, 0 ≤ a → a < 8 → hasB s a = true → a < v 0 0) : 0 ≤ cpV (wayV v) (v 0 0) s ∧ cpV (wayV v) (v 0 0) s ≤ 35840 := by
  have hp := h.1.1
  have := cpV_bd (W := wayV v) (n := v 0 0) (by omega) (fun a b a0 a1 b0 b1 => way_ok h a0 a1 b0 b1) s.toNat s s0 s1 (by omega) hs
  omega
/-- a place that is not of the set has no fellow -/
theorem fel_no {v : TV} (h : VOk v) {p : Int} : ∀ (k : Nat) (s : Int), 0 ≤ s → s < 256 → popc s % 2 = 0 → (∀ a : Int, 0 ≤ a → a < 8 → hasB s a = true → a < v 0 0) → hasB s p = false → 0 ≤ p → felN (wayV v) (v 0 0) k s p = -1
  | 0, _, _, _, _, _, _, _ => rfl
  | k + 1, s, s0, s1, he, hs, hp, p0 => by
    have hn := h.1.1
    rw [felN_s]
    by_cases c : s = 0
    · rw [if_pos c]
    · rw [if_neg c]
      have hl := least_ne (show 0 < s by omega) s1
      have pb := popc_bd (s := s)
      have pz : 2 ≤ popc s := by
        have : ¬ popc s ≤ 0 := fun q => c (popc_zero s0 s1 q)
        omega
      have fi := fel_in (W := wayV v) (n := v 0 0) (by omega) (show 0 < s by omega) s1 hs pz
      have fs := sel_has fi.2
      rw [if_neg (fun q => by rw [q, hl.2.1] at hp; exact absurd hp (by decide)), if_neg (fun q => by rw [q, fs.1] at hp; exact absurd hp (by decide))]
      have rb := rem2_bd (b := felV (wayV v) (v 0 0) s) (show 0 < s by omega) s1
      have rh := fun a a0 => rem2_has (b := felV (wayV v) (v 0 0) s) (a := a) (show 0 < s by omega) s1 fi.1.1 a0
      have pr := popc_rem2 (show 0 < s by omega) s1 fi.1.1 (by omega) fi.2
      refine fel_no h k _ rb.1 (by omega) (by omega) (fun a a0 a1 q => ?_) ?_ p0
      · rw [rh a a0] at q
        have := Bool.and_eq_true _ _ |>.mp q
        exact hs a a0 a1 (Bool.and_eq_true _ _ |>.mp this.1).1
      · rw [rh p p0, hp]; rfl
def P_X11_ones (s : Int) (_ : Mem) : Prop := 0 ≤ s ∧ s < 256
def F_X11_ones (s : Int) (_ : Mem) : Int := popc s
def S_X11_ones : S0t := fun as μ Q => match as with
  | [(0, x0)] => P_X11_ones x0 μ ∧ Q μ (some (kI (F_X11_ones x0 μ)))
  | _ => False
theorem mono_X11_ones : Mono S_X11_ones := by
  intro as μ Q Q' h hS
  unfold S_X11_ones at hS ⊢
  split at hS
  · exact ⟨hS.1, h _ _ hS.2⟩
  · exact hS.elim
def iX11_ones : Inf := (kX11_ones, fTX11, pTX11, cTX11, lTX11, sTX11, [])
theorem ok_X11_ones : infOK iX11_ones mX11_ones RX11 0 0 := ⟨kkX11_ones, fTX11_ok, pTX11_ok _, cTX11_ok, lTX11_ok, sTX11_ok, c_nil⟩
theorem mt_X11_ones : mtOK [] RX11 0 0 := mt_nil
abbrev V_X11_ones (R : Mem → Option AV → Prop) (pc : Nat) (lc : List (Nat × AV)) (μ : Mem) : Prop := VM mX11_ones RX11 0 0 R pc lc [] μ
set_option maxRecDepth 20000 in
theorem vc_X11_ones_0 {R : Mem → Option AV → Prop} {s : Int} {μ : Mem} (H : V_X11_ones R 4 [(1, kI 0), (2, kI s)] μ) : V_X11_ones R 0 [(0, kI s)] μ := by
  refine vm_step2 mt_X11_ones ok_X11_ones [(4, [1, 2])] 1000 ?_
  show V_X11_ones R 4 [(1, kI 0), (2, kI s)] μ
  exact H
set_option maxRecDepth 20000 in
theorem vc_X11_ones_4 {R : Mem → Option AV → Prop} {n v : Int} {μ : Mem} (H : r32 v ∧ ((v = 0) → R μ (some (kI n))) ∧ (¬ (v = 0) → V_X11_ones R 4 [(1, kI (n + 1)), (2, kI (band v (v - 1)))] μ)) : V_X11_ones R 4 [(1, kI n), (2, kI v)] μ := by
  refine vm_step2 mt_X11_ones ok_X11_ones [(4, [1, 2])] 1000 ?_
  show r32 v ∧ ((v = 0) → R μ (some (kI n))) ∧ (¬ (v = 0) → V_X11_ones R 4 [(1, kI (n + 1)), (2, kI (band v (v - 1)))] μ)
  exact ⟨H.1, fun hc1 => (H.2.1 hc1), fun hc1 => (H.2.2 hc1)⟩
theorem body_X11_ones {s : Int} {μ : Mem} {R : Mem → Option AV → Prop} (h : P_X11_ones s μ) (hR : R μ (some (kI (F_X11_ones s μ)))) : V_X11_ones R 0 [(0, kI s)] μ := by
  obtain ⟨s0, s1⟩ := h
  unfold F_X11_ones at hR
  have key : ∀ (k : Nat) (v n : Int), 0 ≤ v → v < 256 → v ≤ k → n + popc v = popc s → V_X11_ones R 4 [(1, kI n), (2, kI v)] μ := by
    intro k
    induction k with
    | zero =>
      intro v n v0 v1 hk e
      have : v = 0 := by omega
      rw [this, popc_0, Int.add_zero] at e
      exact vc_X11_ones_4 ⟨rr (by omega), fun _ => by rw [e]; exact hR, fun q => absurd this q⟩
    | succ k ih =>
      intro v n v0 v1 hk e
      refine vc_X11_ones_4 ⟨rr (by omega), fun q => ?_, fun q => ?_⟩
      · rw [q, popc_0, Int.add_zero] at e
        rw [e]; exact hR
      · have hl := least_ne (show 0 < v by omega) v1
        have hr := rem_lt v0 hl.1.1 hl.2.1
        have hb := rem_bd (s := v) (a := leastB v) v0
        have hp := popc_rem hl.1.1 hl.1.2 hl.2.1
        rw [b_low (by omega) v1]
        exact ih _ _ hb.1 (by omega) (by omega) (by omega)
  exact vc_X11_ones_0 (key s.toNat s 0 s0 s1 (by omega) (by omega))
theorem ct_X11_ones : Ct mX11_ones 0 0 0 0 (nrmS S_X11_ones) := by
  refine ct_vm (own := RX11) (by decide +kernel) rfl ?_ ?_
  · intro as μ Q hS
    unfold S_X11_ones at hS
    split at hS
    · exact Nat.le_of_ble_eq_true rfl
    · exact hS.elim
  · intro as μ R hS
    unfold S_X11_ones at hS
    split at hS
    · exact body_X11_ones hS.1 hS.2
    · exact hS.elim
def P_X11_lowestOf (s : Int) (_ : Mem) : Prop := 0 < s ∧ s < 256
def F_X11_lowestOf (s : Int) (_ : Mem) : Int := leastB s
def S_X11_lowestOf : S0t := fun as μ Q => match as with
  | [(0, x0)] => P_X11_lowestOf x0 μ ∧ Q μ (some (kI (F_X11_lowestOf x0 μ)))
  | _ => False
theorem mono_X11_lowestOf : Mono S_X11_lowestOf := by
  intro as μ Q Q' h hS
  unfold S_X11_lowestOf at hS ⊢
  split at hS
  · exact ⟨hS.1, h _ _ hS.2⟩
  · exact hS.elim
def iX11_lowestOf : Inf := (kX11_lowestOf, fTX11, pTX11, cTX11, lTX11, sTX11, [])
theorem ok_X11_lowestOf : infOK iX11_lowestOf mX11_lowestOf RX11 0 0 := ⟨kkX11_lowestOf, fTX11_ok, pTX11_ok _, cTX11_ok, lTX11_ok, sTX11_ok, c_nil⟩
theorem mt_X11_lowestOf : mtOK [] RX11 0 0 := mt_nil
abbrev V_X11_lowestOf (R : Mem → Option AV → Prop) (pc : Nat) (lc : List (Nat × AV)) (μ : Mem) : Prop := VM mX11_lowestOf RX11 0 0 R pc lc [] μ
set_option maxRecDepth 20000 in
theorem vc_X11_lowestOf_0 {R : Mem → Option AV → Prop} {s : Int} {μ : Mem} (H : V_X11_lowestOf R 2 [(0, kI s), (1, kI 0)] μ) : V_X11_lowestOf R 0 [(0, kI s)] μ := by
  refine vm_step2 mt_X11_lowestOf ok_X11_lowestOf [(2, [0, 1])] 1000 ?_
  show V_X11_lowestOf R 2 [(0, kI s), (1, kI 0)] μ
  exact H
set_option maxRecDepth 20000 in
theorem vc_X11_lowestOf_2 {R : Mem → Option AV → Prop} {s k : Int} {μ : Mem} (H : r32 (band (bshr s k) 1) ∧ ((¬ (band (bshr s k) 1) = 0) → R μ (some (kI k))) ∧ (¬ (¬ (band (bshr s k) 1) = 0) → V_X11_lowestOf R 2 [(0, kI s), (1, kI (k + 1))] μ)) : V_X11_lowestOf R 2 [(0, kI s), (1, kI k)] μ := by
  refine vm_step2 mt_X11_lowestOf ok_X11_lowestOf [(2, [0, 1])] 1000 ?_
  show r32 (band (bshr s k) 1) ∧ ((¬ (band (bshr s k) 1) = 0) → R μ (some (kI k))) ∧ (¬ (¬ (band (bshr s k) 1) = 0) → V_X11_lowestOf R 2 [(0, kI s), (1, kI (k + 1))] μ)
  exact ⟨H.1, fun hc1 => (H.2.1 hc1), fun hc1 => (H.2.2 hc1)⟩
theorem body_X11_lowestOf {s : Int} {μ : Mem} {R : Mem → Option AV → Prop} (h : P_X11_lowestOf s μ) (hR : R μ (some (kI (F_X11_lowestOf s μ)))) : V_X11_lowestOf R 0 [(0, kI s)] μ := by
  obtain ⟨s0, s1⟩ := h
  have hl := least_ne s0 s1
  have key := up_ind (P := fun k => V_X11_lowestOf R 2 [(0, kI s), (1, kI k)] μ) (lo := 0) (hi := leastB s) ?_ ?_
  · exact vc_X11_lowestOf_0 (key 0 (by omega) hl.1.1)
  · intro k k0 k1 ih
    refine vc_X11_lowestOf_2 ?_
    rw [b_tst (by omega) (by omega) k0 (by omega), hl.2.2 k k0 k1, if_neg (by decide)]
    exact ⟨rr (by omega), fun c => absurd rfl c, fun _ => ih⟩
  · refine vc_X11_lowestOf_2 ?_
    rw [b_tst (by omega) (by omega) hl.1.1 (by omega), hl.2.1, if_pos rfl]
    exact ⟨rr (by omega), fun _ => hR, fun c => absurd (show ¬ (1 : Int) = 0 by omega) c⟩
theorem ct_X11_lowestOf : Ct mX11_lowestOf 0 0 0 0 (nrmS S_X11_lowestOf) := by
  refine ct_vm (own := RX11) (by decide +kernel) rfl ?_ ?_
  · intro as μ Q hS
    unfold S_X11_lowestOf at hS
    split at hS
    · exact Nat.le_of_ble_eq_true rfl
    · exact hS.elim
  · intro as μ R hS
    unfold S_X11_lowestOf at hS
    split at hS
    · exact body_X11_lowestOf hS.1 hS.2
    · exact hS.elim
def P_X11_oddPlaces (o : Int) (μ : Mem) : Prop := o = 201 ∧ MB μ
def F_X11_oddPlaces (_ : Int) (μ : Mem) : Int := oddV (vm μ)
def S_X11_oddPlaces : S0t := fun as μ Q => match as with
  | [(2, x0)] => P_X11_oddPlaces x0 μ ∧ Q μ (some (kI (F_X11_oddPlaces x0 μ)))
  | _ => False
theorem mono_X11_oddPlaces : Mono S_X11_oddPlaces := by
  intro as μ Q Q' h hS
  unfold S_X11_oddPlaces at hS ⊢
  split at hS
  · exact ⟨hS.1, h _ _ hS.2⟩
  · exact hS.elim
def iX11_oddPlaces : Inf := (kX11_oddPlaces, fTX11, pTX11, cTX11, lTX11, sTX11, [(209, 0, 1, 11, S_X11_of)])
theorem ok_X11_oddPlaces : infOK iX11_oddPlaces mX11_oddPlaces RX11 1 21 := ⟨kkX11_oddPlaces, fTX11_ok, pTX11_ok _, cTX11_ok, lTX11_ok, sTX11_ok, c_cons ⟨mX11_of, 0, 0, ct_X11_of, mmX11_of, vvX11_of, lkX11_209, ⟨by decide, by decide⟩, ⟨_, _, rfl⟩, by decide, mono_X11_of⟩ (c_nil)⟩
theorem mt_X11_oddPlaces : mtOK [] RX11 1 21 := mt_nil
abbrev V_X11_oddPlaces (R : Mem → Option AV → Prop) (pc : Nat) (lc : List (Nat × AV)) (μ : Mem) : Prop := VM mX11_oddPlaces RX11 1 21 R pc lc [] μ
set_option maxRecDepth 20000 in
theorem vc_X11_oddPlaces_0 {R : Mem → Option AV → Prop} {μ : Mem} (H : V_X11_oddPlaces R 4 [(0, kR 201), (1, kI 0), (2, kI 0)] μ) : V_X11_oddPlaces R 0 [(0, kR 201)] μ := by
  refine vm_step2 mt_X11_oddPlaces ok_X11_oddPlaces [(4, [0, 1, 2]), (17, [0, 1, 2, 3, 4])] 1000 ?_
  show V_X11_oddPlaces R 4 [(0, kR 201), (1, kI 0), (2, kI 0)] μ
  exact H
set_option maxRecDepth 20000 in
theorem vc_X11_oddPlaces_4 {R : Mem → Option AV → Prop} {bits a : Int} {μ : Mem} (H : r32 a ∧ r32 (μ 201 13) ∧ (((μ 201 13) ≤ a) → R μ (some (kI bits))) ∧ (¬ ((μ 201 13) ≤ a) → V_X11_oddPlaces R 17 [(0, kR 201), (1, kI bits), (2, kI a), (3, kI 0), (4, kI 0)] μ)) : V_X11_oddPlaces R 4 [(0, kR 201), (1, kI bits), (2, kI a)] μ := by
  refine vm_step2 mt_X11_oddPlaces ok_X11_oddPlaces [(4, [0, 1, 2]), (17, [0, 1, 2, 3, 4])] 1000 ?_
  show isC 201 11 ∧ (r32 a ∧ r32 (μ 201 13)) ∧ (((μ 201 13) ≤ a) → R μ (some (kI bits))) ∧ (¬ ((μ 201 13) ≤ a) → V_X11_oddPlaces R 17 [(0, kR 201), (1, kI bits), (2, kI a), (3, kI 0), (4, kI 0)] μ)
  exact ⟨c_201, ⟨⟨H.1, H.2.1⟩, fun hc1 => (H.2.2.1 hc1), fun hc1 => (H.2.2.2 hc1)⟩⟩
set_option maxRecDepth 20000 in
theorem vc_X11_oddPlaces_17 {R : Mem → Option AV → Prop} {bits a n b : Int} {μ : Mem} (H : r32 b ∧ r32 (μ 201 13) ∧ (((μ 201 13) ≤ b) → r32 n ∧ r32 (Int.tmod n 2) ∧ ((¬ (Int.tmod n 2) = (1 : Int)) → V_X11_oddPlaces R 4 [(0, kR 201), (1, kI (bor bits 0)), (2, kI (a + 1))] μ) ∧ (¬ (¬ (Int.tmod n 2) = (1 : Int)) → V_X11_oddPlaces R 4 [(0, kR 201), (1, kI (bor bits (bshl 1 a))), (2, kI (a + 1))] μ)) ∧ (¬ ((μ 201 13) ≤ b) → P_X11_of 201 ((40 + (8 * a)) + b) μ ∧ r32 (F_X11_of 201 ((40 + (8 * a)) + b) μ) ∧ (((F_X11_of 201 ((40 + (8 * a)) + b) μ) ≤ 0) → V_X11_oddPlaces R 17 [(0, kR 201), (1, kI bits), (2, kI a), (3, kI (n + 0)), (4, kI (b + 1))] μ) ∧ (¬ ((F_X11_of 201 ((40 + (8 * a)) + b) μ) ≤ 0) → V_X11_oddPlaces R 17 [(0, kR 201), (1, kI bits), (2, kI a), (3, kI (n + 1)), (4, kI (b + 1))] μ))) : V_X11_oddPlaces R 17 [(0, kR 201), (1, kI bits), (2, kI a), (3, kI n), (4, kI b)] μ := by
  refine vm_step2 mt_X11_oddPlaces ok_X11_oddPlaces [(4, [0, 1, 2]), (17, [0, 1, 2, 3, 4])] 1000 ?_
  show isC 201 11 ∧ (r32 b ∧ r32 (μ 201 13)) ∧ (((μ 201 13) ≤ b) → (r32 n ∧ r32 (2 : Int) ∧ (2 : Int) ≠ 0) ∧ (r32 (Int.tmod n 2) ∧ r32 (1 : Int)) ∧ ((¬ (Int.tmod n 2) = (1 : Int)) → V_X11_oddPlaces R 4 [(0, kR 201), (1, kI (bor bits 0)), (2, kI (a + 1))] μ) ∧ (¬ (¬ (Int.tmod n 2) = (1 : Int)) → V_X11_oddPlaces R 4 [(0, kR 201), (1, kI (bor bits (bshl 1 a))), (2, kI (a + 1))] μ)) ∧ (¬ ((μ 201 13) ≤ b) → isC 201 11 ∧ P_X11_of 201 ((40 + (8 * a)) + b) μ ∧ r32 (F_X11_of 201 ((40 + (8 * a)) + b) μ) ∧ (((F_X11_of 201 ((40 + (8 * a)) + b) μ) ≤ 0) → V_X11_oddPlaces R 17 [(0, kR 201), (1, kI bits), (2, kI a), (3, kI (n + 0)), (4, kI (b + 1))] μ) ∧ (¬ ((F_X11_of 201 ((40 + (8 * a)) + b) μ) ≤ 0) → V_X11_oddPlaces R 17 [(0, kR 201), (1, kI bits), (2, kI a), (3, kI (n + 1)), (4, kI (b + 1))] μ))
  exact ⟨c_201, ⟨⟨H.1, H.2.1⟩, fun hc4 => ⟨⟨(H.2.2.1 hc4).1, by unfold r32; omega, by omega⟩, ⟨⟨(H.2.2.1 hc4).2.1, by unfold r32; omega⟩, fun hc2 => ((H.2.2.1 hc4).2.2.1 hc2), fun hc2 => ((H.2.2.1 hc4).2.2.2 hc2)⟩⟩, fun hc4 => ⟨c_201, (H.2.2.2 hc4).1, ⟨(H.2.2.2 hc4).2.1, fun hc3 => ((H.2.2.2 hc4).2.2.1 hc3), fun hc3 => ((H.2.2.2 hc4).2.2.2 hc3)⟩⟩⟩⟩
theorem body_X11_oddPlaces {o : Int} {μ : Mem} {R : Mem → Option AV → Prop} (h : P_X11_oddPlaces o μ) (hR : R μ (some (kI (F_X11_oddPlaces o μ)))) : V_X11_oddPlaces R 0 [(0, kR o)] μ := by
  obtain ⟨rfl, hb⟩ := h
  have ok := hb.v
  have hp := hb.p
  have hpe := hb.2.1
  have key := up_ind (P := fun a => V_X11_oddPlaces R 4 [(0, kR 201), (1, kI (bitsV (fun a => decide (lanesV (vm μ) a % 2 = 1)) a)), (2, kI a)] μ) (lo := 0) (hi := μ 201 13) ?_ ?_
  · exact vc_X11_oddPlaces_0 (key 0 (by omega) (by omega))
  · intro a a0 a1 ih
    have hs := bitsV_s (p := fun a => decide (lanesV (vm μ) a % 2 = 1)) a0
    have hbd := bitsV_bd (p := fun a => decide (lanesV (vm μ) a % 2 = 1)) a0
    have pw := pw2_le a0 (show a ≤ 8 by omega)
    refine vc_X11_oddPlaces_4 ⟨rr (by omega), rr (by omega), fun c => absurd c (by omega), fun _ => ?_⟩
    have k2 := up_ind (P := fun b => V_X11_oddPlaces R 17 [(0, kR 201), (1, kI (bitsV (fun a => decide (lanesV (vm μ) a % 2 = 1)) a)), (2, kI a), (3, kI (sm (fun b => if vm μ 7 (8 * a + b) = 0 then 0 else 1) b)), (4, kI b)] μ) (lo := 0) (hi := μ 201 13) ?_ ?_
    · exact k2 0 (by omega) (by omega)
    · intro b b0 b1 ihb
      have h7 := vm7_nn ok (8 * a + b)
      rw [sm_s b0] at ihb
      refine vc_X11_oddPlaces_17 ?_
      rw [of_7' a0 (by omega) b0 (by omega)]
      refine ⟨rr (by omega), rr (by omega), fun c => absurd c (by omega), fun _ => ⟨⟨rfl, hb.1, by omega, by omega⟩, rr (by omega), fun c => ?_, fun c => ?_⟩⟩
      · rw [if_pos (by omega)] at ihb; exact ihb
      · rw [if_neg (by omega)] at ihb; exact ihb
    · have el : sm (fun b => if vm μ 7 (8 * a + b) = 0 then 0 else 1) (μ 201 13) = lanesV (vm μ) a := by rw [hpe]; rfl
      have lb := lanesV_bd ok (a := a)
      have em : Int.tmod (lanesV (vm μ) a) 2 = lanesV (vm μ) a % 2 := Int.tmod_eq_emod_of_nonneg lb.1
      refine vc_X11_oddPlaces_17 ?_
      rw [el, em]
      refine ⟨rr (by omega), rr (by omega), fun _ => ⟨rr (by omega), rr (by omega), fun c => ?_, fun c => ?_⟩, fun c => absurd (Int.le_refl _) c⟩
      · rw [if_neg (by rw [decide_eq_false c]; decide)] at hs
        have e0 : bor (bitsV (fun a => decide (lanesV (vm μ) a % 2 = 1)) a) 0 = bitsV (fun a => decide (lanesV (vm μ) a % 2 = 1)) a := by
          rw [b_or hbd.1 (by omega) (by omega) (by omega)]
          show ((_ ||| 0 : Nat) : Int) = _
          rw [Nat.or_zero]
          omega
        rw [e0, ← hs]
        exact ih
      · rw [if_pos (decide_eq_true (Classical.byContradiction c))] at hs
        rw [bitsV_or a0 (by omega), ← hs]
        exact ih
  · refine vc_X11_oddPlaces_4 ⟨rr (by omega), rr (by omega), fun _ => ?_, fun c => absurd (Int.le_refl _) c⟩
    rw [hpe]
    exact hR
theorem ct_X11_oddPlaces : Ct mX11_oddPlaces 1 21 0 0 (nrmS S_X11_oddPlaces) := by
  refine ct_vm (own := RX11) (by decide +kernel) rfl ?_ ?_
  · intro as μ Q hS
    unfold S_X11_oddPlaces at hS
    split at hS
    · exact Nat.le_of_ble_eq_true rfl
    · exact hS.elim
  · intro as μ R hS
    unfold S_X11_oddPlaces at hS
    split at hS
    · exact body_X11_oddPlaces hS.1 hS.2
    · exact hS.elim
def KPm (μ : Mem) : Prop := MB μ ∧ Holds2 μ 206 (vm μ 0 0) (wayV (vm μ))
def CPm (μ : Mem) : Prop := ∀ s : Int, 0 ≤ s → s < ((2 ^ (vm μ 0 0).toNat : Nat) : Int) → popc s % 2 = 0 → μ 229 s = cpV (wayV (vm μ)) (vm μ 0 0) s
def P_X11_couplings (o : Int) (μ : Mem) : Prop := o = 201 ∧ KPm μ
def Q_X11_couplings (_ : Int) (μ μ' : Mem) : Prop := CPm μ' ∧ ∀ z : Int, z ≠ 229 → μ' z = μ z
def S_X11_couplings : S0t := fun as μ Q => match as with
  | [(2, x0)] => P_X11_couplings x0 μ ∧ ∀ (μ' : Mem) , Q_X11_couplings x0 μ μ'  → Q μ' none
  | _ => False
theorem mono_X11_couplings : Mono S_X11_couplings := by
  intro as μ Q Q' h hS
  unfold S_X11_couplings at hS ⊢
  split at hS
  · exact ⟨hS.1, fun μ' q => h _ _ (hS.2 _ q)⟩
  · exact hS.elim
def iX11_couplings : Inf := (kX11_couplings, fTX11, pTX11, cTX11, lTX11, sTX11, [(408, 1, 1, 0, S_X11_ones), (411, 1, 1, 0, S_X11_lowestOf)])
theorem ok_X11_couplings : infOK iX11_couplings mX11_couplings RX11 1 22 := ⟨kkX11_couplings, fTX11_ok, pTX11_ok _, cTX11_ok, lTX11_ok, sTX11_ok, c_cons ⟨mX11_ones, 0, 0, ct_X11_ones, mmX11_ones, stX11_ones, lkX11_408, ⟨by decide, by decide⟩, mono_X11_ones⟩ (c_cons ⟨mX11_lowestOf, 0, 0, ct_X11_lowestOf, mmX11_lowestOf, stX11_lowestOf, lkX11_411, ⟨by decide, by decide⟩, mono_X11_lowestOf⟩ (c_nil))⟩
theorem mt_X11_couplings : mtOK [] RX11 1 22 := mt_nil
abbrev V_X11_couplings (R : Mem → Option AV → Prop) (pc : Nat) (lc : List (Nat × AV)) (μ : Mem) : Prop := VM mX11_couplings RX11 1 22 R pc lc [] μ
set_option maxRecDepth 20000 in
theorem vc_X11_couplings_0 {R : Mem → Option AV → Prop} {μ : Mem} (H : V_X11_couplings R 7 [(0, kR 201)] (updm μ 229 0 0)) : V_X11_couplings R 0 [(0, kR 201)] μ := by
  refine vm_step2 mt_X11_couplings ok_X11_couplings [(7, [0]), (9, [0, 1]), (27, [0, 1]), (49, [0, 1, 2, 3]), (117, [0, 1, 2, 3])] 1000 ?_
  show isC 201 11 ∧ inA 229 0 (0 : Int) ∧ V_X11_couplings R 7 [(0, kR 201)] (updm μ 229 0 0)
  exact ⟨c_201, ⟨isArr.in a_229 (by omega) (by omega), H⟩⟩
set_option maxRecDepth 20000 in
theorem vc_X11_couplings_7 {R : Mem → Option AV → Prop} {μ : Mem} (H : V_X11_couplings R 9 [(0, kR 201), (1, kI 1)] μ) : V_X11_couplings R 7 [(0, kR 201)] μ := by
  refine vm_step2 mt_X11_couplings ok_X11_couplings [(7, [0]), (9, [0, 1]), (27, [0, 1]), (49, [0, 1, 2, 3]), (117, [0, 1, 2, 3])] 1000 ?_
  show V_X11_couplings R 9 [(0, kR 201), (1, kI 1)] μ
  exact H
set_option maxRecDepth 20000 in
theorem vc_X11_couplings_9 {R : Mem → Option AV → Prop} {s : Int} {μ : Mem} (H : r32 s ∧ r32 (bshl 1 (μ 201 13)) ∧ (((bshl 1 (μ 201 13)) ≤ s) → R μ none) ∧ (¬ ((bshl 1 (μ 201 13)) ≤ s) → (0 ≤ s ∧ s < 256) ∧ V_X11_couplings R 27 [(0, kR 201), (1, kI s)] (updm μ 229 s 100000))) : V_X11_couplings R 9 [(0, kR 201), (1, kI s)] μ := by
  refine vm_step2 mt_X11_couplings ok_X11_couplings [(7, [0]), (9, [0, 1]), (27, [0, 1]), (49, [0, 1, 2, 3]), (117, [0, 1, 2, 3])] 1000 ?_
  show isC 201 11 ∧ (r32 s ∧ r32 (bshl 1 (μ 201 13))) ∧ (((bshl 1 (μ 201 13)) ≤ s) → R μ none) ∧ (¬ ((bshl 1 (μ 201 13)) ≤ s) → isC 201 11 ∧ inA 229 0 s ∧ V_X11_couplings R 27 [(0, kR 201), (1, kI s)] (updm μ 229 s 100000))
  exact ⟨c_201, ⟨⟨H.1, H.2.1⟩, fun hc1 => (H.2.2.1 hc1), fun hc1 => ⟨c_201, ⟨isArr.in a_229 (H.2.2.2 hc1).1.1 (H.2.2.2 hc1).1.2, (H.2.2.2 hc1).2⟩⟩⟩⟩
set_option maxRecDepth 20000 in
theorem vc_X11_couplings_27 {R : Mem → Option AV → Prop} {s : Int} {μ : Mem} (H : P_X11_ones s μ ∧ r32 (F_X11_ones s μ) ∧ r32 (Int.tmod (F_X11_ones s μ) 2) ∧ ((¬ (Int.tmod (F_X11_ones s μ) 2) = (1 : Int)) → P_X11_lowestOf s μ ∧ V_X11_couplings R 49 [(0, kR 201), (1, kI s), (2, kI (F_X11_lowestOf s μ)), (3, kI ((F_X11_lowestOf s μ) + 1))] μ) ∧ (¬ (¬ (Int.tmod (F_X11_ones s μ) 2) = (1 : Int)) → V_X11_couplings R 9 [(0, kR 201), (1, kI (s + 1))] μ)) : V_X11_couplings R 27 [(0, kR 201), (1, kI s)] μ := by
  refine vm_step2 mt_X11_couplings ok_X11_couplings [(7, [0]), (9, [0, 1]), (27, [0, 1]), (49, [0, 1, 2, 3]), (117, [0, 1, 2, 3])] 1000 ?_
  show P_X11_ones s μ ∧ (r32 (F_X11_ones s μ) ∧ r32 (2 : Int) ∧ (2 : Int) ≠ 0) ∧ (r32 (Int.tmod (F_X11_ones s μ) 2) ∧ r32 (1 : Int)) ∧ ((¬ (Int.tmod (F_X11_ones s μ) 2) = (1 : Int)) → P_X11_lowestOf s μ ∧ V_X11_couplings R 49 [(0, kR 201), (1, kI s), (2, kI (F_X11_lowestOf s μ)), (3, kI ((F_X11_lowestOf s μ) + 1))] μ) ∧ (¬ (¬ (Int.tmod (F_X11_ones s μ) 2) = (1 : Int)) → V_X11_couplings R 9 [(0, kR 201), (1, kI (s + 1))] μ)
  exact ⟨H.1, ⟨⟨H.2.1, by unfold r32; omega, by omega⟩, ⟨⟨H.2.2.1, by unfold r32; omega⟩, fun hc2 => ⟨(H.2.2.2.1 hc2).1, (H.2.2.2.1 hc2).2⟩, fun hc2 => (H.2.2.2.2 hc2)⟩⟩⟩
set_option maxRecDepth 20000 in
theorem vc_X11_couplings_49 {R : Mem → Option AV → Prop} {s a b : Int} {μ : Mem} (H : r32 b ∧ r32 (μ 201 13) ∧ (((μ 201 13) ≤ b) → V_X11_couplings R 9 [(0, kR 201), (1, kI (s + 1))] μ) ∧ (¬ ((μ 201 13) ≤ b) → r32 (band (bshr s b) 1) ∧ ((¬ (band (bshr s b) 1) = 0) → (0 ≤ ((8 * a) + b) ∧ ((8 * a) + b) < 64) ∧ (0 ≤ (band s (bxor (bor (bshl 1 a) (bshl 1 b)) (-1))) ∧ (band s (bxor (bor (bshl 1 a) (bshl 1 b)) (-1))) < 256) ∧ (0 ≤ s ∧ s < 256) ∧ r32 ((μ 206 ((8 * a) + b)) + (μ 229 (band s (bxor (bor (bshl 1 a) (bshl 1 b)) (-1))))) ∧ r32 (μ 229 s) ∧ (((μ 229 s) ≤ ((μ 206 ((8 * a) + b)) + (μ 229 (band s (bxor (bor (bshl 1 a) (bshl 1 b)) (-1)))))) → V_X11_couplings R 117 [(0, kR 201), (1, kI s), (2, kI a), (3, kI b)] μ) ∧ (¬ ((μ 229 s) ≤ ((μ 206 ((8 * a) + b)) + (μ 229 (band s (bxor (bor (bshl 1 a) (bshl 1 b)) (-1)))))) → (0 ≤ s ∧ s < 256) ∧ V_X11_couplings R 117 [(0, kR 201), (1, kI s), (2, kI a), (3, kI b)] (updm μ 229 s ((μ 206 ((8 * a) + b)) + (μ 229 (band s (bxor (bor (bshl 1 a) (bshl 1 b)) (-1)))))))) ∧ (¬ (¬ (band (bshr s b) 1) = 0) → V_X11_couplings R 117 [(0, kR 201), (1, kI s), (2, kI a), (3, kI b)] μ))) : V_X11_couplings R 49 [(0, kR 201), (1, kI s), (2, kI a), (3, kI b)] μ := by
  refine vm_step2 mt_X11_couplings ok_X11_couplings [(7, [0]), (9, [0, 1]), (27, [0, 1]), (49, [0, 1, 2, 3]), (117, [0, 1, 2, 3])] 1000 ?_
  show isC 201 11 ∧ (r32 b ∧ r32 (μ 201 13)) ∧ (((μ 201 13) ≤ b) → V_X11_couplings R 9 [(0, kR 201), (1, kI (s + 1))] μ) ∧ (¬ ((μ 201 13) ≤ b) → r32 (band (bshr s b) 1) ∧ ((¬ (band (bshr s b) 1) = 0) → isC 201 11 ∧ inA 206 0 ((8 * a) + b) ∧ isC 201 11 ∧ inA 229 0 (band s (bxor (bor (bshl 1 a) (bshl 1 b)) (-1))) ∧ isC 201 11 ∧ inA 229 0 s ∧ (r32 ((μ 206 ((8 * a) + b)) + (μ 229 (band s (bxor (bor (bshl 1 a) (bshl 1 b)) (-1))))) ∧ r32 (μ 229 s)) ∧ (((μ 229 s) ≤ ((μ 206 ((8 * a) + b)) + (μ 229 (band s (bxor (bor (bshl 1 a) (bshl 1 b)) (-1)))))) → V_X11_couplings R 117 [(0, kR 201), (1, kI s), (2, kI a), (3, kI b)] μ) ∧ (¬ ((μ 229 s) ≤ ((μ 206 ((8 * a) + b)) + (μ 229 (band s (bxor (bor (bshl 1 a) (bshl 1 b)) (-1)))))) → isC 201 11 ∧ inA 229 0 s ∧ V_X11_couplings R 117 [(0, kR 201), (1, kI s), (2, kI a), (3, kI b)] (updm μ 229 s ((μ 206 ((8 * a) + b)) + (μ 229 (band s (bxor (bor (bshl 1 a) (bshl 1 b)) (-1)))))))) ∧ (¬ (¬ (band (bshr s b) 1) = 0) → V_X11_couplings R 117 [(0, kR 201), (1, kI s), (2, kI a), (3, kI b)] μ))
  exact ⟨c_201, ⟨⟨H.1, H.2.1⟩, fun hc5 => (H.2.2.1 hc5), fun hc5 => ⟨(H.2.2.2 hc5).1, fun hc4 => ⟨c_201, ⟨isArr.in a_206 ((H.2.2.2 hc5).2.1 hc4).1.1 ((H.2.2.2 hc5).2.1 hc4).1.2, ⟨c_201, ⟨isArr.in a_229 ((H.2.2.2 hc5).2.1 hc4).2.1.1 ((H.2.2.2 hc5).2.1 hc4).2.1.2, ⟨c_201, ⟨isArr.in a_229 ((H.2.2.2 hc5).2.1 hc4).2.2.1.1 ((H.2.2.2 hc5).2.1 hc4).2.2.1.2, ⟨⟨((H.2.2.2 hc5).2.1 hc4).2.2.2.1, ((H.2.2.2 hc5).2.1 hc4).2.2.2.2.1⟩, fun hc3 => (((H.2.2.2 hc5).2.1 hc4).2.2.2.2.2.1 hc3), fun hc3 => ⟨c_201, ⟨isArr.in a_229 (((H.2.2.2 hc5).2.1 hc4).2.2.2.2.2.2 hc3).1.1 (((H.2.2.2 hc5).2.1 hc4).2.2.2.2.2.2 hc3).1.2, (((H.2.2.2 hc5).2.1 hc4).2.2.2.2.2.2 hc3).2⟩⟩⟩⟩⟩⟩⟩⟩⟩, fun hc4 => ((H.2.2.2 hc5).2.2 hc4)⟩⟩⟩
set_option maxRecDepth 20000 in
theorem vc_X11_couplings_117 {R : Mem → Option AV → Prop} {s a b : Int} {μ : Mem} (H : V_X11_couplings R 49 [(0, kR 201), (1, kI s), (2, kI a), (3, kI (b + 1))] μ) : V_X11_couplings R 117 [(0, kR 201), (1, kI s), (2, kI a), (3, kI b)] μ := by
  refine vm_step2 mt_X11_couplings ok_X11_couplings [(7, [0]), (9, [0, 1]), (27, [0, 1]), (49, [0, 1, 2, 3]), (117, [0, 1, 2, 3])] 1000 ?_
  show V_X11_couplings R 49 [(0, kR 201), (1, kI s), (2, kI a), (3, kI (b + 1))] μ
  exact H
theorem KPm_frame {μ m : Mem} (h : KPm μ) (hz : ∀ z : Int, z ≠ 229 → m z = μ z) : KPm m ∧ vm m = vm μ := by
  obtain ⟨mb, ev⟩ := MB_frame h.1 (hz 202 (by omega)) (by rw [hz 201 (by omega)]) (by rw [hz 201 (by omega)])
  refine ⟨⟨mb, ?_⟩, ev⟩
  rw [ev]
  intro a b a0 a1 b0 b1
  rw [hz 206 (by omega)]
  exact h.2 a b a0 a1 b0 b1
theorem body_X11_couplings {o : Int} {μ : Mem} {R : Mem → Option AV → Prop} (h : P_X11_couplings o μ) (hR : ∀ μ' : Mem, Q_X11_couplings o μ μ' → R μ' none) : V_X11_couplings R 0 [(0, kR o)] μ := by
  obtain ⟨rfl, hk⟩ := h
  have hb := hk.1
  have ok := hb.v
  have vok : VOk (vm μ) := hb.2.2
  have hp := hb.p
  have hpe := hb.2.1
  have p1 := pw2_le (c := vm μ 0 0) (by omega) (by omega)
  have es := b_shl (k := μ 201 13) (by omega) (by omega)
  rw [hpe] at es
  obtain ⟨N2, hN⟩ : ∃ N2 : Int, N2 = ((2 ^ (vm μ 0 0).toNat : Nat) : Int) := ⟨_, rfl⟩
  rw [← hN] at p1 es
  have sin : ∀ s a : Int, 0 ≤ s → s < N2 → hasB s a = true → a < vm μ 0 0 := fun s a s0 s1 h => set_in (by omega) s0 (by omega) h
  refine vc_X11_couplings_0 (vc_X11_couplings_7 ?_)
  refine up_ind (P := fun s => ∀ m : Mem, (∀ z : Int, z ≠ 229 → m z = μ z) → (∀ t : Int, 0 ≤ t → t < s → popc t % 2 = 0 → m 229 t = cpV (wayV (vm μ)) (vm μ 0 0) t) → V_X11_couplings R 9 [(0, kR 201), (1, kI s)] m) (lo := 1) (hi := N2) ?_ ?_ 1 (by omega) p1.1 _ (fun z hz => ru_ne hz) (fun t t0 t1 _ => ?_)
  · intro s s0 s1 ih m hz hm
    obtain ⟨hkm, ev⟩ := KPm_frame hk hz
    have m13 : m 201 13 = vm μ 0 0 := by rw [hz 201 (by omega), hpe]
    have pb := popc_bd (s := s)
    refine vc_X11_couplings_9 ?_
    rw [m13, es]
    refine ⟨rr (by omega), rr (by omega), fun c => absurd c (by omega), fun _ => ⟨by omega, ?_⟩⟩
    obtain ⟨m1, em1⟩ : ∃ x, x = updm m 229 s 100000 := ⟨_, rfl⟩
    rw [← em1]
    have z1 : ∀ z : Int, z ≠ 229 → m1 z = μ z := fun z h => by rw [em1, ru_ne h, hz z h]
    have o1 : ∀ t : Int, t ≠ s → m1 229 t = m 229 t := fun t h => by rw [em1, ru_eq, r1_ne h]
    have f1 : m1 229 s = 100000 := by rw [em1, ru_eq, r1_eq]
    have etm : Int.tmod (popc s) 2 = popc s % 2 := Int.tmod_eq_emod_of_nonneg pb.1
    refine vc_X11_couplings_27 ?_
    unfold F_X11_ones F_X11_lowestOf
    rw [etm]
    refine ⟨⟨by omega, by omega⟩, rr (by omega), rr (by omega), fun c => ⟨⟨by omega, by omega⟩, ?_⟩, fun c => ih m1 z1 (fun t t0 t1 te => ?_)⟩
    · -- an even set
      have he : popc s % 2 = 0 := by omega
      have hl := least_ne (show 0 < s by omega) (show s < 256 by omega)
      have hln := sin s (leastB s) (by omega) s1 hl.2.1
      have p2 : 2 ≤ popc s := by
        have : ¬ popc s ≤ 0 := fun q => by have := popc_zero (s := s) (by omega) (by omega) q; omega
        omega
      obtain ⟨G, hG⟩ : ∃ G : Int → Int, G = fun b => wayV (vm μ) (leastB s) b + cpV (wayV (vm μ)) (vm μ 0 0) (rem2 s b) := ⟨_, rfl⟩
      have hGe : ∀ b, G b = wayV (vm μ) (leastB s) b + cpV (wayV (vm μ)) (vm μ 0 0) (rem2 s b) := fun b => by rw [hG]
      have Gb : ∀ b : Int, 0 ≤ b → b < vm μ 0 0 → 0 ≤ G b ∧ G b ≤ 40000 := fun b b0 b1 => by
        have w := way_ok vok hl.1.1 hln b0 b1
        have rb := rem2_bd (s := s) (b := b) (by omega) (by omega)
        have cb := cp_bd vok (s := rem2 s b) rb.1 (by omega) (fun a a0 a1 q => by
          rw [rem2_has (by omega) (by omega) b0 a0] at q
          exact sin s a (by omega) s1 (Bool.and_eq_true _ _ |>.mp (Bool.and_eq_true _ _ |>.mp q).1).1)
        rw [hGe]
        omega
      have ecp : cpV (wayV (vm μ)) (vm μ 0 0) s = (mnF (selB s) G (vm μ 0 0)).1 ∧ 0 ≤ (mnF (selB s) G (vm μ 0 0)).2 := by
        rw [cpV_eq (by omega) (by omega) (by omega)]
        unfold cpS
        rw [if_neg (by omega), ← hG]
        refine ⟨rfl, ?_⟩
        rcases mnF_cases (q := selB s) (f := G) (n := vm μ 0 0) (by omega) with ⟨_, h⟩ | ⟨b, hb', e, _⟩
        · obtain ⟨b, b0, b1, hsel⟩ := sel_ex (s := s) (by omega) (by omega) p2
          have := h b b0 (sin s b (by omega) s1 (sel_has hsel).1)
          rw [hsel] at this; cases this
        · rw [e]; exact hb'.1
      refine up_ind (P := fun b => ∀ m2 : Mem, (∀ z : Int, z ≠ 229 → m2 z = μ z) → (∀ t : Int, t ≠ s → m2 229 t = m 229 t) → m2 229 s = (if (mnF (selB s) G b).2 < 0 then 100000 else (mnF (selB s) G b).1) → V_X11_couplings R 49 [(0, kR 201), (1, kI s), (2, kI (leastB s)), (3, kI b)] m2) (lo := leastB s + 1) (hi := vm μ 0 0) ?_ ?_ (leastB s + 1) (Int.le_refl _) (by omega) m1 z1 o1 ?_
      · intro b b0 b1 ihb m2 z2 o2 f2
        obtain ⟨hkm2, ev2⟩ := KPm_frame hk z2
        have n13 : m2 201 13 = vm μ 0 0 := by rw [z2 201 (by omega), hpe]
        have et := b_tst (s := s) (a := b) (by omega) (by omega) (by omega) (by omega)
        have er := b_rem2 (s := s) (a := leastB s) (b := b) (by omega) (by omega) hl.1.1 (by omega) (by omega) (by omega)
        have er' : remS (remS s (leastB s)) b = rem2 s b := rfl
        have ms := mnF_s (q := selB s) (f := G) (n := b) (by omega)
        have mc := mnF_cases (q := selB s) (f := G) (n := b) (by omega)
        have rb := rem2_bd (s := s) (b := b) (by omega) (by omega)
        refine vc_X11_couplings_49 ?_
        rw [n13, et, er, er']
        refine ⟨rr (by omega), rr (by omega), fun c => absurd c (by omega), fun _ => ?_⟩
        by_cases hbit : hasB s b = true
        · have hsel : selB s b = true := by unfold selB; rw [hbit, decide_eq_true (by omega)]; rfl
          have pr := popc_rem2 (s := s) (by omega) (by omega) (by omega) (by omega) hsel
          have e206 : m2 206 (8 * leastB s + b) = wayV (vm μ) (leastB s) b := by rw [z2 206 (by omega)]; exact hk.2 _ _ hl.1.1 hln (by omega) b1
          have e229 : m2 229 (rem2 s b) = cpV (wayV (vm μ)) (vm μ 0 0) (rem2 s b) := by rw [o2 _ (by omega)]; exact hm _ rb.1 (by omega) (by omega)
          rw [if_pos hbit, e206, e229, ← hGe b, f2]
          have gb := Gb b (by omega) b1
          rw [ms] at ihb
          generalize mnF (selB s) G b = M at ihb mc f2 ⊢
          have mb : M.2 < 0 ∨ (¬ M.2 < 0 ∧ 0 ≤ M.1 ∧ M.1 ≤ 40000) := by
            rcases mc with ⟨e, _⟩ | ⟨j, hj, e, _⟩
            · left; rw [e]; show (-1 : Int) < 0; omega
            · right
              have := Gb j hj.1 (by omega)
              rw [e]
              exact ⟨by show ¬ j < 0; omega, this⟩
          have keep : ¬ (M.2 < 0 ∨ G b < M.1) → V_X11_couplings R 117 [(0, kR 201), (1, kI s), (2, kI (leastB s)), (3, kI b)] m2 := fun q => by
            refine vc_X11_couplings_117 (ihb m2 z2 o2 ?_)
            rw [if_neg (show ¬ (selB s b = true ∧ (M.2 < 0 ∨ G b < M.1)) from fun x => q x.2)]
            exact f2
          have put : (M.2 < 0 ∨ G b < M.1) → V_X11_couplings R 117 [(0, kR 201), (1, kI s), (2, kI (leastB s)), (3, kI b)] (updm m2 229 s (G b)) := fun q => by
            refine vc_X11_couplings_117 (ihb _ (fun z h => by rw [ru_ne h, z2 z h]) (fun t h => by rw [ru_eq, r1_ne h, o2 t h]) ?_)
            rw [if_pos (show selB s b = true ∧ (M.2 < 0 ∨ G b < M.1) from ⟨hsel, q⟩), ru_eq, r1_eq, if_neg (by show ¬ b < 0; omega)]
          by_cases cM : M.2 < 0
          · rw [if_pos cM]
            exact ⟨rr (by omega), fun _ => ⟨by omega, by omega, by omega, rr (by omega), rr (by omega), fun c => absurd c (by omega), fun _ => ⟨by omega, put (Or.inl cM)⟩⟩, fun c => absurd (show ¬ (1 : Int) = 0 by omega) c⟩
          · have mb' : 0 ≤ M.1 ∧ M.1 ≤ 40000 := by rcases mb with q | q; exact absurd q cM; exact q.2
            rw [if_neg cM]
            exact ⟨rr (by omega), fun _ => ⟨by omega, by omega, by omega, rr (by omega), rr (by omega), fun c => keep (fun q => by rcases q with q | q <;> omega), fun c => ⟨by omega, put (Or.inr (by omega))⟩⟩, fun c => absurd (show ¬ (1 : Int) = 0 by omega) c⟩
        · have hns : selB s b ≠ true := fun q => hbit (sel_has q).1
          rw [if_neg hbit]
          refine ⟨rr (by omega), fun c => absurd rfl c, fun _ => vc_X11_couplings_117 (ihb m2 z2 o2 ?_)⟩
          rw [ms, if_neg (show ¬ (selB s b = true ∧ ((mnF (selB s) G b).2 < 0 ∨ G b < (mnF (selB s) G b).1)) from fun q => hns q.1)]
          exact f2
      · intro m2 z2 o2 f2
        have n13 : m2 201 13 = vm μ 0 0 := by rw [z2 201 (by omega), hpe]
        refine vc_X11_couplings_49 ?_
        rw [n13]
        refine ⟨rr (by omega), rr (by omega), fun _ => ih m2 z2 (fun t t0 t1 te => ?_), fun c => absurd (Int.le_refl _) c⟩
        by_cases q : t = s
        · rw [q, f2, if_neg (by omega), ecp.1]
        · rw [o2 t q]; exact hm t t0 (by omega) te
      · rw [f1, mnF_none (by omega) (fun b b0 b1 => by
          unfold selB
          rw [decide_eq_false (by omega), Bool.and_false])]
        rfl
    · have he : popc s % 2 = 1 := Classical.byContradiction c
      have : t ≠ s := fun q => by rw [q] at te; omega
      rw [o1 t this]
      exact hm t t0 (by omega) te
  · intro m hz hm
    obtain ⟨hkm, ev⟩ := KPm_frame hk hz
    have m13 : m 201 13 = vm μ 0 0 := by rw [hz 201 (by omega), hpe]
    refine vc_X11_couplings_9 ?_
    rw [m13, es]
    refine ⟨rr (by omega), rr (by omega), fun _ => hR m ⟨fun s s0 s1 he => ?_, hz⟩, fun c => absurd (Int.le_refl _) c⟩
    rw [ev] at s1 ⊢
    exact hm s s0 (by omega) he
  · have : t = 0 := by omega
    rw [this, ru_eq, r1_eq]
    rfl
theorem ct_X11_couplings : Ct mX11_couplings 1 22 0 0 (nrmS S_X11_couplings) := by
  refine ct_vm (own := RX11) (by decide +kernel) rfl ?_ ?_
  · intro as μ Q hS
    unfold S_X11_couplings at hS
    split at hS
    · exact Nat.le_of_ble_eq_true rfl
    · exact hS.elim
  · intro as μ R hS
    unfold S_X11_couplings at hS
    split at hS
    · exact body_X11_couplings hS.1 hS.2
    · exact hS.elim
def P_X11_fellow (o p : Int) (μ : Mem) : Prop := o = 201 ∧ KPm μ ∧ CPm μ ∧ r32 p
def F_X11_fellow (_ p : Int) (μ : Mem) : Int := felN (wayV (vm μ)) (vm μ 0 0) 8 (oddV (vm μ)) p
def S_X11_fellow : S0t := fun as μ Q => match as with
  | [(2, x0), (0, x1)] => P_X11_fellow x0 x1 μ ∧ Q μ (some (kI (F_X11_fellow x0 x1 μ)))
  | _ => False
theorem mono_X11_fellow : Mono S_X11_fellow := by
  intro as μ Q Q' h hS
  unfold S_X11_fellow at hS ⊢
  split at hS
  · exact ⟨hS.1, h _ _ hS.2⟩
  · exact hS.elim
def iX11_fellow : Inf := (kX11_fellow, fTX11, pTX11, cTX11, lTX11, sTX11, [(414, 0, 0, 11, S_X11_oddPlaces), (411, 1, 1, 0, S_X11_lowestOf)])
theorem ok_X11_fellow : infOK iX11_fellow mX11_fellow RX11 2 45 := ⟨kkX11_fellow, fTX11_ok, pTX11_ok _, cTX11_ok, lTX11_ok, sTX11_ok, c_cons ⟨mX11_oddPlaces, 1, 21, ct_X11_oddPlaces, mmX11_oddPlaces, vvX11_oddPlaces, lkX11_414, ⟨by decide, by decide⟩, ⟨_, _, rfl⟩, by decide, mono_X11_oddPlaces⟩ (c_cons ⟨mX11_lowestOf, 0, 0, ct_X11_lowestOf, mmX11_lowestOf, stX11_lowestOf, lkX11_411, ⟨by decide, by decide⟩, mono_X11_lowestOf⟩ (c_nil))⟩
theorem mt_X11_fellow : mtOK [] RX11 2 45 := mt_nil
abbrev V_X11_fellow (R : Mem → Option AV → Prop) (pc : Nat) (lc : List (Nat × AV)) (μ : Mem) : Prop := VM mX11_fellow RX11 2 45 R pc lc [] μ
set_option maxRecDepth 20000 in
theorem vc_X11_fellow_0 {R : Mem → Option AV → Prop} {p : Int} {μ : Mem} (H : P_X11_oddPlaces 201 μ ∧ V_X11_fellow R 5 [(0, kR 201), (1, kI p), (2, kI (F_X11_oddPlaces 201 μ))] μ) : V_X11_fellow R 0 [(0, kR 201), (1, kI p)] μ := by
  refine vm_step2 mt_X11_fellow ok_X11_fellow [(5, [0, 1, 2]), (19, [0, 1, 2, 3, 4])] 1000 ?_
  show isC 201 11 ∧ P_X11_oddPlaces 201 μ ∧ V_X11_fellow R 5 [(0, kR 201), (1, kI p), (2, kI (F_X11_oddPlaces 201 μ))] μ
  exact ⟨c_201, H.1, H.2⟩
set_option maxRecDepth 20000 in
theorem vc_X11_fellow_5 {R : Mem → Option AV → Prop} {p s : Int} {μ : Mem} (H : r32 s ∧ ((s = 0) → R μ (some (kI (-1)))) ∧ (¬ (s = 0) → P_X11_lowestOf s μ ∧ V_X11_fellow R 19 [(0, kR 201), (1, kI p), (2, kI s), (3, kI (F_X11_lowestOf s μ)), (4, kI ((F_X11_lowestOf s μ) + 1))] μ)) : V_X11_fellow R 5 [(0, kR 201), (1, kI p), (2, kI s)] μ := by
  refine vm_step2 mt_X11_fellow ok_X11_fellow [(5, [0, 1, 2]), (19, [0, 1, 2, 3, 4])] 1000 ?_
  show r32 s ∧ ((s = 0) → R μ (some (kI (-1)))) ∧ (¬ (s = 0) → P_X11_lowestOf s μ ∧ V_X11_fellow R 19 [(0, kR 201), (1, kI p), (2, kI s), (3, kI (F_X11_lowestOf s μ)), (4, kI ((F_X11_lowestOf s μ) + 1))] μ)
  exact ⟨H.1, fun hc1 => (H.2.1 hc1), fun hc1 => ⟨(H.2.2 hc1).1, (H.2.2 hc1).2⟩⟩
set_option maxRecDepth 20000 in
theorem vc_X11_fellow_19 {R : Mem → Option AV → Prop} {p s a b : Int} {μ : Mem} (H : r32 (band (bshr s b) 1) ∧ (((band (bshr s b) 1) = 0) → V_X11_fellow R 19 [(0, kR 201), (1, kI p), (2, kI s), (3, kI a), (4, kI (b + 1))] μ) ∧ (¬ ((band (bshr s b) 1) = 0) → (0 ≤ ((8 * a) + b) ∧ ((8 * a) + b) < 64) ∧ (0 ≤ (band s (bxor (bor (bshl 1 a) (bshl 1 b)) (-1))) ∧ (band s (bxor (bor (bshl 1 a) (bshl 1 b)) (-1))) < 256) ∧ (0 ≤ s ∧ s < 256) ∧ r32 ((μ 206 ((8 * a) + b)) + (μ 229 (band s (bxor (bor (bshl 1 a) (bshl 1 b)) (-1))))) ∧ r32 (μ 229 s) ∧ ((((μ 206 ((8 * a) + b)) + (μ 229 (band s (bxor (bor (bshl 1 a) (bshl 1 b)) (-1))))) = (μ 229 s)) → r32 a ∧ r32 p ∧ ((¬ a = p) → r32 b ∧ r32 p ∧ ((¬ b = p) → V_X11_fellow R 5 [(0, kR 201), (1, kI p), (2, kI (band s (bxor (bor (bshl 1 a) (bshl 1 b)) (-1))))] μ) ∧ (¬ (¬ b = p) → R μ (some (kI a)))) ∧ (¬ (¬ a = p) → R μ (some (kI b)))) ∧ (¬ (((μ 206 ((8 * a) + b)) + (μ 229 (band s (bxor (bor (bshl 1 a) (bshl 1 b)) (-1))))) = (μ 229 s)) → V_X11_fellow R 19 [(0, kR 201), (1, kI p), (2, kI s), (3, kI a), (4, kI (b + 1))] μ))) : V_X11_fellow R 19 [(0, kR 201), (1, kI p), (2, kI s), (3, kI a), (4, kI b)] μ := by
  refine vm_step2 mt_X11_fellow ok_X11_fellow [(5, [0, 1, 2]), (19, [0, 1, 2, 3, 4])] 1000 ?_
  show r32 (band (bshr s b) 1) ∧ (((band (bshr s b) 1) = 0) → V_X11_fellow R 19 [(0, kR 201), (1, kI p), (2, kI s), (3, kI a), (4, kI (b + 1))] μ) ∧ (¬ ((band (bshr s b) 1) = 0) → isC 201 11 ∧ inA 206 0 ((8 * a) + b) ∧ isC 201 11 ∧ inA 229 0 (band s (bxor (bor (bshl 1 a) (bshl 1 b)) (-1))) ∧ isC 201 11 ∧ inA 229 0 s ∧ (r32 ((μ 206 ((8 * a) + b)) + (μ 229 (band s (bxor (bor (bshl 1 a) (bshl 1 b)) (-1))))) ∧ r32 (μ 229 s)) ∧ ((((μ 206 ((8 * a) + b)) + (μ 229 (band s (bxor (bor (bshl 1 a) (bshl 1 b)) (-1))))) = (μ 229 s)) → (r32 a ∧ r32 p) ∧ ((¬ a = p) → (r32 b ∧ r32 p) ∧ ((¬ b = p) → V_X11_fellow R 5 [(0, kR 201), (1, kI p), (2, kI (band s (bxor (bor (bshl 1 a) (bshl 1 b)) (-1))))] μ) ∧ (¬ (¬ b = p) → R μ (some (kI a)))) ∧ (¬ (¬ a = p) → R μ (some (kI b)))) ∧ (¬ (((μ 206 ((8 * a) + b)) + (μ 229 (band s (bxor (bor (bshl 1 a) (bshl 1 b)) (-1))))) = (μ 229 s)) → V_X11_fellow R 19 [(0, kR 201), (1, kI p), (2, kI s), (3, kI a), (4, kI (b + 1))] μ))
  exact ⟨H.1, fun hc5 => (H.2.1 hc5), fun hc5 => ⟨c_201, ⟨isArr.in a_206 (H.2.2 hc5).1.1 (H.2.2 hc5).1.2, ⟨c_201, ⟨isArr.in a_229 (H.2.2 hc5).2.1.1 (H.2.2 hc5).2.1.2, ⟨c_201, ⟨isArr.in a_229 (H.2.2 hc5).2.2.1.1 (H.2.2 hc5).2.2.1.2, ⟨⟨(H.2.2 hc5).2.2.2.1, (H.2.2 hc5).2.2.2.2.1⟩, fun hc4 => ⟨⟨((H.2.2 hc5).2.2.2.2.2.1 hc4).1, ((H.2.2 hc5).2.2.2.2.2.1 hc4).2.1⟩, fun hc3 => ⟨⟨(((H.2.2 hc5).2.2.2.2.2.1 hc4).2.2.1 hc3).1, (((H.2.2 hc5).2.2.2.2.2.1 hc4).2.2.1 hc3).2.1⟩, fun hc2 => ((((H.2.2 hc5).2.2.2.2.2.1 hc4).2.2.1 hc3).2.2.1 hc2), fun hc2 => ((((H.2.2 hc5).2.2.2.2.2.1 hc4).2.2.1 hc3).2.2.2 hc2)⟩, fun hc3 => (((H.2.2 hc5).2.2.2.2.2.1 hc4).2.2.2 hc3)⟩, fun hc4 => ((H.2.2 hc5).2.2.2.2.2.2 hc4)⟩⟩⟩⟩⟩⟩⟩⟩
theorem body_X11_fellow {o p : Int} {μ : Mem} {R : Mem → Option AV → Prop} (h : P_X11_fellow o p μ) (hR : R μ (some (kI (F_X11_fellow o p μ)))) : V_X11_fellow R 0 [(0, kR o), (1, kI p)] μ := by
  obtain ⟨rfl, hk, hc, rp⟩ := h
  have hb := hk.1
  have ok := hb.v
  have vok : VOk (vm μ) := hb.2.2
  have hp := ok.1
  have ob := odd_bd ok
  have pw := pw2_le (c := vm μ 0 0) (by omega) (by omega)
  have oin : ∀ a : Int, 0 ≤ a → a < 8 → hasB (oddV (vm μ)) a = true → a < vm μ 0 0 := fun a a0 a1 q => by
    rw [odd_has ok a0, Bool.and_eq_true] at q
    exact of_decide_eq_true q.1
  have key : ∀ (k : Nat) (s : Int), 0 ≤ s → s < ((2 ^ (vm μ 0 0).toNat : Nat) : Int) → popc s % 2 = 0 → popc s ≤ 2 * k → R μ (some (kI (felN (wayV (vm μ)) (vm μ 0 0) k s p))) → V_X11_fellow R 5 [(0, kR 201), (1, kI p), (2, kI s)] μ := by
    intro k
    induction k with
    | zero =>
      intro s s0 s1 he hpk hRk
      have : s = 0 := popc_zero s0 (by omega) (by omega)
      exact vc_X11_fellow_5 ⟨rr (by omega), fun _ => hRk, fun q => absurd this q⟩
    | succ k ih =>
      intro s s0 s1 he hpk hRk
      rw [felN_s] at hRk
      refine vc_X11_fellow_5 ⟨rr (by omega), fun q => ?_, fun q => ⟨⟨by omega, by omega⟩, ?_⟩⟩
      · rw [if_pos q] at hRk; exact hRk
      rw [if_neg q] at hRk
      have sin : ∀ a : Int, 0 ≤ a → a < 8 → hasB s a = true → a < vm μ 0 0 := fun a _ _ h => set_in (by omega) s0 s1 h
      have hl := least_ne (show 0 < s by omega) (show s < 256 by omega)
      have hln := sin _ hl.1.1 hl.1.2 hl.2.1
      have p2 : 2 ≤ popc s := by
        have pb := popc_bd (s := s)
        have : ¬ popc s ≤ 0 := fun q' => q (popc_zero (s := s) s0 (by omega) q')
        omega
      have fi := fel_in (W := wayV (vm μ)) (n := vm μ 0 0) (by omega) (show 0 < s by omega) (by omega) sin p2
      have eS := hc s s0 s1 he
      have cbs := cp_bd vok (s := s) s0 (by omega) sin
      obtain ⟨G, hG⟩ : ∃ G : Int → Int, G = fun b => wayV (vm μ) (leastB s) b + cpV (wayV (vm μ)) (vm μ 0 0) (rem2 s b) := ⟨_, rfl⟩
      have hGe : ∀ b, G b = wayV (vm μ) (leastB s) b + cpV (wayV (vm μ)) (vm μ 0 0) (rem2 s b) := fun b => by rw [hG]
      have efel : felV (wayV (vm μ)) (vm μ 0 0) s = (mnF (selB s) G (vm μ 0 0)).2 ∧ cpV (wayV (vm μ)) (vm μ 0 0) s = (mnF (selB s) G (vm μ 0 0)).1 := by
        rw [cpV_eq (by omega) s0 (by omega)]
        unfold felV cpS
        rw [if_neg q, ← hG]
        exact ⟨rfl, rfl⟩
      rcases mnF_cases (q := selB s) (f := G) (n := vm μ 0 0) (by omega) with ⟨e, _⟩ | ⟨j, hj, e, hsj, hmin, hfst⟩
      · have := fi.1.1
        rw [efel.1, e] at this
        exact absurd this (by decide)
      rw [e] at efel
      have ej : felV (wayV (vm μ)) (vm μ 0 0) s = j := efel.1
      have eG : cpV (wayV (vm μ)) (vm μ 0 0) s = G j := efel.2
      rw [ej] at hRk
      have hjl := (sel_has hsj).2
      have step : ∀ b : Int, leastB s < b → b < vm μ 0 0 → ((hasB s b = false → V_X11_fellow R 19 [(0, kR 201), (1, kI p), (2, kI s), (3, kI (leastB s)), (4, kI (b + 1))] μ) ∧ (hasB s b = true → ((G b = G j) → r32 (leastB s) ∧ r32 p ∧ ((¬ (leastB s) = p) → r32 b ∧ r32 p ∧ ((¬ b = p) → V_X11_fellow R 5 [(0, kR 201), (1, kI p), (2, kI (rem2 s b))] μ) ∧ (¬ (¬ b = p) → R μ (some (kI (leastB s))))) ∧ (¬ (¬ (leastB s) = p) → R μ (some (kI b)))) ∧ (¬ (G b = G j) → V_X11_fellow R 19 [(0, kR 201), (1, kI p), (2, kI s), (3, kI (leastB s)), (4, kI (b + 1))] μ))) → V_X11_fellow R 19 [(0, kR 201), (1, kI p), (2, kI s), (3, kI (leastB s)), (4, kI b)] μ := by
        intro b b0 b1 hyp
        have et := b_tst (s := s) (a := b) s0 (by omega) (by omega) (by omega)
        have er := b_rem2 (s := s) (a := leastB s) (b := b) s0 (by omega) hl.1.1 (by omega) (by omega) (by omega)
        have er' : remS (remS s (leastB s)) b = rem2 s b := rfl
        have rb := rem2_bd (s := s) (b := b) (by omega) (by omega)
        refine vc_X11_fellow_19 ?_
        rw [et, er, er']
        by_cases hbit : hasB s b = true
        · have hsel : selB s b = true := by unfold selB; rw [hbit, decide_eq_true b0]; rfl
          have pr := popc_rem2 (s := s) (by omega) (by omega) (by omega) (by omega) hsel
          have e206 : μ 206 (8 * leastB s + b) = wayV (vm μ) (leastB s) b := hk.2 _ _ hl.1.1 hln (by omega) b1
          have e229 : μ 229 (rem2 s b) = cpV (wayV (vm μ)) (vm μ 0 0) (rem2 s b) := hc _ rb.1 (by omega) (by omega)
          have w := way_ok vok hl.1.1 hln (show 0 ≤ b by omega) b1
          have cb := cp_bd vok (s := rem2 s b) rb.1 (by omega) (fun a a0 a1 q => by
            rw [rem2_has (by omega) (by omega) (by omega) a0] at q
            exact sin a a0 a1 (Bool.and_eq_true _ _ |>.mp (Bool.and_eq_true _ _ |>.mp q).1).1)
          rw [if_pos hbit, e206, e229, eS, eG, ← hGe b]
          have h2 := hyp.2 hbit
          rw [← eG] at h2 ⊢
          have gb : -2147483648 ≤ G b ∧ G b ≤ 2147483647 := by rw [hGe]; omega
          exact ⟨rr (by omega), fun c => absurd c (by omega), fun _ => ⟨by omega, by omega, by omega, rr gb, rr (by omega), h2.1, h2.2⟩⟩
        · have hb' : hasB s b = false := by simpa using hbit
          rw [if_neg hbit]
          exact ⟨rr (by omega), fun _ => hyp.1 hb', fun c => absurd rfl c⟩
      refine up_ind (P := fun b => V_X11_fellow R 19 [(0, kR 201), (1, kI p), (2, kI s), (3, kI (leastB s)), (4, kI b)] μ) (lo := leastB s + 1) (hi := j) ?_ ?_ (leastB s + 1) (Int.le_refl _) (by omega)
      · intro b b0 b1 ihb
        refine step b (by omega) (by omega) ⟨fun _ => ihb, fun hbit => ⟨fun q' => ?_, fun _ => ihb⟩⟩
        have := hfst b (by omega) b1 (by unfold selB; rw [hbit, decide_eq_true (by omega)]; rfl)
        omega
      · have rb := rem2_bd (s := s) (b := j) (by omega) (by omega)
        have pr := popc_rem2 (s := s) (by omega) (by omega) (by omega) (by omega) hsj
        refine step j hjl hj.2 ⟨fun q' => absurd q' (by rw [(sel_has hsj).1]; decide), fun _ => ⟨fun _ => ⟨rr (by omega), rp, fun c1 => ⟨rr (by omega), rp, fun c2 => ?_, fun c2 => ?_⟩, fun c1 => ?_⟩, fun q' => absurd rfl q'⟩⟩
        · rw [if_neg (fun x => c1 x.symm), if_neg (fun x => c2 x.symm)] at hRk
          exact ih _ rb.1 (by omega) (by omega) (by omega) hRk
        · rw [if_neg (fun x => c1 x.symm), if_pos (Classical.byContradiction fun x => c2 (fun y => x y.symm))] at hRk
          exact hRk
        · rw [if_pos (Classical.byContradiction fun x => c1 (fun y => x y.symm))] at hRk
          exact hRk
  have pb := popc_bd (s := oddV (vm μ))
  have olt : oddV (vm μ) < ((2 ^ (vm μ 0 0).toNat : Nat) : Int) := (bitsV_bd (p := fun a => decide (lanesV (vm μ) a % 2 = 1)) (n := vm μ 0 0) (by omega)).2
  refine vc_X11_fellow_0 ⟨⟨rfl, hb⟩, ?_⟩
  exact key 8 _ ob.1 olt (odd_even ok) (by show popc (oddV (vm μ)) ≤ 2 * ((8 : Nat) : Int); omega) hR
theorem ct_X11_fellow : Ct mX11_fellow 2 45 0 0 (nrmS S_X11_fellow) := by
  refine ct_vm (own := RX11) (by decide +kernel) rfl ?_ ?_
  · intro as μ Q hS
    unfold S_X11_fellow at hS
    split at hS
    · exact Nat.le_of_ble_eq_true rfl
    · exact hS.elim
  · intro as μ R hS
    unfold S_X11_fellow at hS
    split at hS
    · exact body_X11_fellow hS.1 hS.2
    · exact hS.elim
def P_X11_allMinutes (o : Int) (μ : Mem) : Prop := o = 201 ∧ MB μ
def F_X11_allMinutes (_ : Int) (μ : Mem) : Int := allMinV (vm μ)
def S_X11_allMinutes : S0t := fun as μ Q => match as with
  | [(2, x0)] => P_X11_allMinutes x0 μ ∧ Q μ (some (kI (F_X11_allMinutes x0 μ)))
  | _ => False
theorem mono_X11_allMinutes : Mono S_X11_allMinutes := by
  intro as μ Q Q' h hS
  unfold S_X11_allMinutes at hS ⊢
  split at hS
  · exact ⟨hS.1, h _ _ hS.2⟩
  · exact hS.elim
def iX11_allMinutes : Inf := (kX11_allMinutes, fTX11, pTX11, cTX11, lTX11, sTX11, [(209, 0, 1, 11, S_X11_of)])
theorem ok_X11_allMinutes : infOK iX11_allMinutes mX11_allMinutes RX11 1 21 := ⟨kkX11_allMinutes, fTX11_ok, pTX11_ok _, cTX11_ok, lTX11_ok, sTX11_ok, c_cons ⟨mX11_of, 0, 0, ct_X11_of, mmX11_of, vvX11_of, lkX11_209, ⟨by decide, by decide⟩, ⟨_, _, rfl⟩, by decide, mono_X11_of⟩ (c_nil)⟩
theorem mt_X11_allMinutes : mtOK [] RX11 1 21 := mt_nil
abbrev V_X11_allMinutes (R : Mem → Option AV → Prop) (pc : Nat) (lc : List (Nat × AV)) (μ : Mem) : Prop := VM mX11_allMinutes RX11 1 21 R pc lc [] μ
set_option maxRecDepth 20000 in
theorem vc_X11_allMinutes_0 {R : Mem → Option AV → Prop} {μ : Mem} (H : V_X11_allMinutes R 4 [(0, kR 201), (1, kI 0), (2, kI 0)] μ) : V_X11_allMinutes R 0 [(0, kR 201)] μ := by
  refine vm_step2 mt_X11_allMinutes ok_X11_allMinutes [(4, [0, 1, 2])] 1000 ?_
  show V_X11_allMinutes R 4 [(0, kR 201), (1, kI 0), (2, kI 0)] μ
  exact H
set_option maxRecDepth 20000 in
theorem vc_X11_allMinutes_4 {R : Mem → Option AV → Prop} {sum k : Int} {μ : Mem} (H : r32 k ∧ (((64 : Int) ≤ k) → r32 sum ∧ R μ (some (kI (Int.tdiv sum 2)))) ∧ (¬ ((64 : Int) ≤ k) → P_X11_of 201 (40 + k) μ ∧ V_X11_allMinutes R 4 [(0, kR 201), (1, kI (sum + (F_X11_of 201 (40 + k) μ))), (2, kI (k + 1))] μ)) : V_X11_allMinutes R 4 [(0, kR 201), (1, kI sum), (2, kI k)] μ := by
  refine vm_step2 mt_X11_allMinutes ok_X11_allMinutes [(4, [0, 1, 2])] 1000 ?_
  show (r32 k ∧ r32 (64 : Int)) ∧ (((64 : Int) ≤ k) → (r32 sum ∧ r32 (2 : Int) ∧ (2 : Int) ≠ 0) ∧ R μ (some (kI (Int.tdiv sum 2)))) ∧ (¬ ((64 : Int) ≤ k) → isC 201 11 ∧ P_X11_of 201 (40 + k) μ ∧ V_X11_allMinutes R 4 [(0, kR 201), (1, kI (sum + (F_X11_of 201 (40 + k) μ))), (2, kI (k + 1))] μ)
  exact ⟨⟨H.1, by unfold r32; omega⟩, fun hc1 => ⟨⟨(H.2.1 hc1).1, by unfold r32; omega, by omega⟩, (H.2.1 hc1).2⟩, fun hc1 => ⟨c_201, (H.2.2 hc1).1, (H.2.2 hc1).2⟩⟩
theorem body_X11_allMinutes {o : Int} {μ : Mem} {R : Mem → Option AV → Prop} (h : P_X11_allMinutes o μ) (hR : R μ (some (kI (F_X11_allMinutes o μ)))) : V_X11_allMinutes R 0 [(0, kR o)] μ := by
  obtain ⟨rfl, hb⟩ := h
  have ok := hb.v
  have key := up_ind (P := fun k => V_X11_allMinutes R 4 [(0, kR 201), (1, kI (sm (vm μ 7) k)), (2, kI k)] μ) (lo := 0) (hi := 64) ?_ ?_
  · exact vc_X11_allMinutes_0 (key 0 (by omega) (by omega))
  · intro k k0 k1 ih
    rw [sm_s k0] at ih
    refine vc_X11_allMinutes_4 ?_
    rw [of_7 k0 k1]
    exact ⟨rr (by omega), fun c => absurd c (by omega), fun _ => ⟨⟨rfl, hb.1, by omega, by omega⟩, ih⟩⟩
  · have e := all_two ok
    have bd := sm_bd (f := vm μ 7) (n := 64) (c := 0) (d := 20) (fun i i0 i1 => vm7_nn ok i) (by omega)
    have ed : Int.tdiv (sm (vm μ 7) 64) 2 = allMinV (vm μ) := by
      rw [Int.tdiv_eq_ediv_of_nonneg (by omega), e]
      omega
    refine vc_X11_allMinutes_4 ?_
    rw [ed]
    exact ⟨rr (by omega), fun _ => ⟨rr (by omega), hR⟩, fun c => absurd (Int.le_refl _) c⟩
theorem ct_X11_allMinutes : Ct mX11_allMinutes 1 21 0 0 (nrmS S_X11_allMinutes) := by
  refine ct_vm (own := RX11) (by decide +kernel) rfl ?_ ?_
  · intro as μ Q hS
    unfold S_X11_allMinutes at hS
    split at hS
    · exact Nat.le_of_ble_eq_true rfl
    · exact hS.elim
  · intro as μ R hS
    unfold S_X11_allMinutes at hS
    split at hS
    · exact body_X11_allMinutes hS.1 hS.2
    · exact hS.elim
def P_X11_postman (o n k : Int) (μ : Mem) : Prop := o = 201 ∧ SOk (stM μ) ∧ r32 n ∧ r32 k
def Q_X11_postman (_ n k : Int) (μ μ' : Mem) (r : Int) : Prop := AskM μ μ' ∧ r = onT (stM μ).1 n (-1) (postmanT k)
def S_X11_postman : S0t := fun as μ Q => match as with
  | [(2, x0), (0, x1), (0, x2)] => P_X11_postman x0 x1 x2 μ ∧ ∀ (μ' : Mem) (r : Int), Q_X11_postman x0 x1 x2 μ μ' r → Q μ' (some (kI r))
  | _ => False
theorem mono_X11_postman : Mono S_X11_postman := by
  intro as μ Q Q' h hS
  unfold S_X11_postman at hS ⊢
  split at hS
  · exact ⟨hS.1, fun μ' r q => h _ _ (hS.2 _ _ q)⟩
  · exact hS.elim
def iX11_postman : Inf := (kX11_postman, fTX11, pTX11, cTX11, lTX11, sTX11, [(234, 0, 1, 11, S_X11_looks), (417, 0, 0, 11, S_X11_couplings), (162, 1, 3, 0, S_X11_isIn), (344, 0, 0, 11, S_X11_allMinutes), (414, 0, 0, 11, S_X11_oddPlaces), (420, 0, 1, 11, S_X11_fellow)])
theorem ok_X11_postman : infOK iX11_postman mX11_postman RX11 3 69 := ⟨kkX11_postman, fTX11_ok, pTX11_ok _, cTX11_ok, lTX11_ok, sTX11_ok, c_cons ⟨mX11_looks, 2, 45, ct_X11_looks, mmX11_looks, vvX11_looks, lkX11_234, ⟨by decide, by decide⟩, ⟨_, _, rfl⟩, by decide, mono_X11_looks⟩ (c_cons ⟨mX11_couplings, 1, 22, ct_X11_couplings, mmX11_couplings, vvX11_couplings, lkX11_417, ⟨by decide, by decide⟩, ⟨_, _, rfl⟩, by decide, mono_X11_couplings⟩ (c_cons ⟨mX11_isIn, 0, 0, ct_X11_isIn, mmX11_isIn, stX11_isIn, lkX11_162, ⟨by decide, by decide⟩, mono_X11_isIn⟩ (c_cons ⟨mX11_allMinutes, 1, 21, ct_X11_allMinutes, mmX11_allMinutes, vvX11_allMinutes, lkX11_344, ⟨by decide, by decide⟩, ⟨_, _, rfl⟩, by decide, mono_X11_allMinutes⟩ (c_cons ⟨mX11_oddPlaces, 1, 21, ct_X11_oddPlaces, mmX11_oddPlaces, vvX11_oddPlaces, lkX11_414, ⟨by decide, by decide⟩, ⟨_, _, rfl⟩, by decide, mono_X11_oddPlaces⟩ (c_cons ⟨mX11_fellow, 2, 45, ct_X11_fellow, mmX11_fellow, vvX11_fellow, lkX11_420, ⟨by decide, by decide⟩, ⟨_, _, rfl⟩, by decide, mono_X11_fellow⟩ (c_nil))))))⟩
theorem mt_X11_postman : mtOK [] RX11 3 69 := mt_nil
abbrev V_X11_postman (R : Mem → Option AV → Prop) (pc : Nat) (lc : List (Nat × AV)) (μ : Mem) : Prop := VM mX11_postman RX11 3 69 R pc lc [] μ
set_option maxRecDepth 20000 in
theorem vc_X11_postman_0 {R : Mem → Option AV → Prop} {n k : Int} {μ : Mem} (H : P_X11_looks 201 n μ ∧ (∀ (μ1 : Mem) (rv2 : Int), Q_X11_looks 201 n μ μ1 rv2 → r32 rv2 ∧ ((¬ rv2 = 0) → P_X11_couplings 201 μ1 ∧ (∀ (μ4 : Mem), Q_X11_couplings 201 μ1 μ4 → P_X11_isIn k 10 (9 + (μ4 201 13)) μ4 ∧ r32 (F_X11_isIn k 10 (9 + (μ4 201 13)) μ4) ∧ (((F_X11_isIn k 10 (9 + (μ4 201 13)) μ4) = 0) → r32 k ∧ ((¬ k = 0) → R μ4 (some (kI (-1)))) ∧ (¬ (¬ k = 0) → P_X11_allMinutes 201 μ4 ∧ P_X11_oddPlaces 201 μ4 ∧ (0 ≤ (F_X11_oddPlaces 201 μ4) ∧ (F_X11_oddPlaces 201 μ4) < 256) ∧ R μ4 (some (kI ((F_X11_allMinutes 201 μ4) + (μ4 229 (F_X11_oddPlaces 201 μ4))))))) ∧ (¬ ((F_X11_isIn k 10 (9 + (μ4 201 13)) μ4) = 0) → P_X11_fellow 201 (k - 10) μ4 ∧ R μ4 (some (kI (F_X11_fellow 201 (k - 10) μ4)))))) ∧ (¬ (¬ rv2 = 0) → R μ1 (some (kI (-1)))))) : V_X11_postman R 0 [(0, kR 201), (1, kI n), (2, kI k)] μ := by
  refine vm_step2 mt_X11_postman ok_X11_postman [] 1000 ?_
  show isC 201 11 ∧ P_X11_looks 201 n μ ∧ (∀ (μ1 : Mem) (rv2 : Int), Q_X11_looks 201 n μ μ1 rv2 → r32 rv2 ∧ ((¬ rv2 = 0) → isC 201 11 ∧ P_X11_couplings 201 μ1 ∧ (∀ (μ4 : Mem), Q_X11_couplings 201 μ1 μ4 → isC 201 11 ∧ P_X11_isIn k 10 (9 + (μ4 201 13)) μ4 ∧ r32 (F_X11_isIn k 10 (9 + (μ4 201 13)) μ4) ∧ (((F_X11_isIn k 10 (9 + (μ4 201 13)) μ4) = 0) → r32 k ∧ ((¬ k = 0) → R μ4 (some (kI (-1)))) ∧ (¬ (¬ k = 0) → isC 201 11 ∧ P_X11_allMinutes 201 μ4 ∧ isC 201 11 ∧ isC 201 11 ∧ P_X11_oddPlaces 201 μ4 ∧ inA 229 0 (F_X11_oddPlaces 201 μ4) ∧ R μ4 (some (kI ((F_X11_allMinutes 201 μ4) + (μ4 229 (F_X11_oddPlaces 201 μ4))))))) ∧ (¬ ((F_X11_isIn k 10 (9 + (μ4 201 13)) μ4) = 0) → isC 201 11 ∧ P_X11_fellow 201 (k - 10) μ4 ∧ R μ4 (some (kI (F_X11_fellow 201 (k - 10) μ4)))))) ∧ (¬ (¬ rv2 = 0) → R μ1 (some (kI (-1)))))
  exact ⟨c_201, H.1, fun μ1 rv2 hq3 => ⟨(H.2 μ1 rv2 hq3).1, fun hc9 => ⟨c_201, ((H.2 μ1 rv2 hq3).2.1 hc9).1, fun μ4 hq6 => ⟨c_201, ⟨(((H.2 μ1 rv2 hq3).2.1 hc9).2 μ4 hq6).1, ⟨(((H.2 μ1 rv2 hq3).2.1 hc9).2 μ4 hq6).2.1, fun hc8 => ⟨((((H.2 μ1 rv2 hq3).2.1 hc9).2 μ4 hq6).2.2.1 hc8).1, fun hc7 => (((((H.2 μ1 rv2 hq3).2.1 hc9).2 μ4 hq6).2.2.1 hc8).2.1 hc7), fun hc7 => ⟨c_201, (((((H.2 μ1 rv2 hq3).2.1 hc9).2 μ4 hq6).2.2.1 hc8).2.2 hc7).1, ⟨c_201, ⟨c_201, (((((H.2 μ1 rv2 hq3).2.1 hc9).2 μ4 hq6).2.2.1 hc8).2.2 hc7).2.1, ⟨isArr.in a_229 (((((H.2 μ1 rv2 hq3).2.1 hc9).2 μ4 hq6).2.2.1 hc8).2.2 hc7).2.2.1.1 (((((H.2 μ1 rv2 hq3).2.1 hc9).2 μ4 hq6).2.2.1 hc8).2.2 hc7).2.2.1.2, (((((H.2 μ1 rv2 hq3).2.1 hc9).2 μ4 hq6).2.2.1 hc8).2.2 hc7).2.2.2⟩⟩⟩⟩⟩, fun hc8 => ⟨c_201, ((((H.2 μ1 rv2 hq3).2.1 hc9).2 μ4 hq6).2.2.2 hc8).1, ((((H.2 μ1 rv2 hq3).2.1 hc9).2 μ4 hq6).2.2.2 hc8).2⟩⟩⟩⟩⟩, fun hc9 => ((H.2 μ1 rv2 hq3).2.2 hc9)⟩⟩
theorem body_X11_postman {o n k : Int} {μ : Mem} {R : Mem → Option AV → Prop} (h : P_X11_postman o n k μ) (hR : ∀ (μ' : Mem) (r : Int), Q_X11_postman o n k μ μ' r → R μ' (some (kI r))) : V_X11_postman R 0 [(0, kR o), (1, kI n), (2, kI k)] μ := by
  obtain ⟨rfl, hs, r_n, r_k⟩ := h
  refine vc_X11_postman_0 ⟨⟨rfl, hs, r_n⟩, fun m rv q => ?_⟩
  obtain ⟨q1, q3, q4⟩ := q
  have ask : AskM μ m := fun z hz => q1 z (by omega) (by omega) (by omega)
  by_cases c : 0 ≤ n ∧ n < μ 202 0
  · obtain ⟨rfl, hl, hv⟩ := q4 c
    have hb := hl.1
    have ok := hb.v
    have hp := hb.p
    have hpe := hb.2.1
    have fin : ∀ (m' : Mem) (x : Int), AskM m m' → x = (postmanT k) (vm m) → R m' (some (kI x)) := fun m' x ha hx => hR m' x ⟨ask.trans ha, by rw [hx, onM_yes c, ← hv]⟩
    have a0 := AskM_0 m
    refine ⟨rr (by omega), fun _ => ?_, fun q => absurd (show ¬ (1 : Int) = 0 by omega) q⟩
    refine ⟨⟨rfl, hb, hl.2.1⟩, fun m4 q5 => ?_⟩
    obtain ⟨cp, fz⟩ := q5
    obtain ⟨kp, ev⟩ := KPm_frame ⟨hb, hl.2.1⟩ fz
    have ak : AskM m m4 := fun z hz => fz z (by omega)
    have m13 : m4 201 13 = m 201 13 := by rw [fz 201 (by omega)]
    have ir := isIn_r (x := k) (lo := 10) (hi := 9 + m 201 13) (μ := m4)
    unfold postmanT at fin
    rw [← ev] at fin
    rw [m13]
    refine ⟨⟨r_k, rr (by omega), rr (by omega)⟩, rr (by omega), fun d => ⟨r_k, fun e => fin m4 _ ak ?_, fun e => ⟨⟨rfl, kp.1⟩, ⟨rfl, kp.1⟩, ?_, fin m4 _ ak ?_⟩⟩, fun d => ?_⟩
    · have : ¬ (10 ≤ k ∧ k ≤ 9 + m 201 13) := fun q => isIn_1.mpr q d
      rw [if_neg e, if_neg (by rw [ev]; omega)]
    · have := odd_bd kp.1.v
      unfold F_X11_oddPlaces
      exact this
    · have ob := odd_bd kp.1.v
      have op := kp.1.v.1
      unfold F_X11_oddPlaces F_X11_allMinutes
      rw [if_pos (Classical.byContradiction e), cp _ ob.1 (bitsV_bd (p := fun a => decide (lanesV (vm m4) a % 2 = 1)) (n := vm m4 0 0) (by omega)).2 (odd_even kp.1.v)]
    · have dd := isIn_1.mp d
      refine ⟨⟨rfl, kp, cp, rr (by omega)⟩, fin m4 _ ak ?_⟩
      have ob := odd_bd kp.1.v
      rw [if_neg (by omega), if_pos (by rw [ev]; omega)]
      unfold F_X11_fellow
      by_cases c : hasB (oddV (vm m4)) (k - 10) = true
      · rw [if_pos c]
      · rw [if_neg c, fel_no kp.1.2.2 8 _ ob.1 ob.2 (odd_even kp.1.v) (fun a a0 a1 q => by
          rw [odd_has kp.1.v a0, Bool.and_eq_true] at q
          exact of_decide_eq_true q.1) (by simpa using c) (by omega)]
  · have e := q3 c
    subst e
    exact ⟨rr (by omega), fun q => absurd rfl q, fun _ => hR m _ ⟨ask, (onM_no c).symm⟩⟩
theorem ct_X11_postman : Ct mX11_postman 3 69 0 0 (nrmS S_X11_postman) := by
  refine ct_vm (own := RX11) (by decide +kernel) rfl ?_ ?_
  · intro as μ Q hS
    unfold S_X11_postman at hS
    split at hS
    · exact Nat.le_of_ble_eq_true rfl
    · exact hS.elim
  · intro as μ R hS
    unfold S_X11_postman at hS
    split at hS
    · exact body_X11_postman hS.1 hS.2
    · exact hS.elim
def P_X11_isTree (o n : Int) (μ : Mem) : Prop := o = 201 ∧ SOk (stM μ) ∧ r32 n
def Q_X11_isTree (_ n : Int) (μ μ' : Mem) (r : Int) : Prop := (∀ z : Int, z ≠ 201 → μ' z = μ z) ∧ FldM μ μ' [12, 13] ∧ (¬ ((0 ≤ n ∧ n < μ 202 0) ∧ (stM μ).1.2.2 n 1 0 = (stM μ).1.2.2 n 0 0 - 1) → r = 0) ∧ ((0 ≤ n ∧ n < μ 202 0) ∧ (stM μ).1.2.2 n 1 0 = (stM μ).1.2.2 n 0 0 - 1 → r = 1 ∧ MB μ' ∧ vm μ' = (stM μ).1.2.2 n ∧ μ' 201 12 = 510 + 260 * n)
def S_X11_isTree : S0t := fun as μ Q => match as with
  | [(2, x0), (0, x1)] => P_X11_isTree x0 x1 μ ∧ ∀ (μ' : Mem) (r : Int), Q_X11_isTree x0 x1 μ μ' r → Q μ' (some (kI r))
  | _ => False
theorem mono_X11_isTree : Mono S_X11_isTree := by
  intro as μ Q Q' h hS
  unfold S_X11_isTree at hS ⊢
  split at hS
  · exact ⟨hS.1, fun μ' r q => h _ _ (hS.2 _ _ q)⟩
  · exact hS.elim
def iX11_isTree : Inf := (kX11_isTree, fTX11, pTX11, cTX11, lTX11, sTX11, [(219, 0, 1, 11, S_X11_isTown), (209, 0, 1, 11, S_X11_of)])
theorem ok_X11_isTree : infOK iX11_isTree mX11_isTree RX11 2 43 := ⟨kkX11_isTree, fTX11_ok, pTX11_ok _, cTX11_ok, lTX11_ok, sTX11_ok, c_cons ⟨mX11_isTown, 1, 22, ct_X11_isTown, mmX11_isTown, vvX11_isTown, lkX11_219, ⟨by decide, by decide⟩, ⟨_, _, rfl⟩, by decide, mono_X11_isTown⟩ (c_cons ⟨mX11_of, 0, 0, ct_X11_of, mmX11_of, vvX11_of, lkX11_209, ⟨by decide, by decide⟩, ⟨_, _, rfl⟩, by decide, mono_X11_of⟩ (c_nil))⟩
theorem mt_X11_isTree : mtOK [] RX11 2 43 := mt_nil
abbrev V_X11_isTree (R : Mem → Option AV → Prop) (pc : Nat) (lc : List (Nat × AV)) (μ : Mem) : Prop := VM mX11_isTree RX11 2 43 R pc lc [] μ
set_option maxRecDepth 20000 in
theorem vc_X11_isTree_0 {R : Mem → Option AV → Prop} {n : Int} {μ : Mem} (H : P_X11_isTown 201 n μ ∧ (∀ (μ1 : Mem) (rv2 : Int), Q_X11_isTown 201 n μ μ1 rv2 → r32 rv2 ∧ ((rv2 = 0) → R μ1 (some (kI 0))) ∧ (¬ (rv2 = 0) → P_X11_of 201 1 μ1 ∧ r32 (F_X11_of 201 1 μ1) ∧ r32 ((μ1 201 13) - 1) ∧ ((¬ (F_X11_of 201 1 μ1) = ((μ1 201 13) - 1)) → R μ1 (some (kI 0))) ∧ (¬ (¬ (F_X11_of 201 1 μ1) = ((μ1 201 13) - 1)) → R μ1 (some (kI 1)))))) : V_X11_isTree R 0 [(0, kR 201), (1, kI n)] μ := by
  refine vm_step2 mt_X11_isTree ok_X11_isTree [] 1000 ?_
  show isC 201 11 ∧ P_X11_isTown 201 n μ ∧ (∀ (μ1 : Mem) (rv2 : Int), Q_X11_isTown 201 n μ μ1 rv2 → r32 rv2 ∧ ((rv2 = 0) → (0 ≤ (0 : Int) ∧ (0 : Int) ≤ 1) ∧ R μ1 (some (kI 0))) ∧ (¬ (rv2 = 0) → isC 201 11 ∧ P_X11_of 201 1 μ1 ∧ isC 201 11 ∧ (r32 (F_X11_of 201 1 μ1) ∧ r32 ((μ1 201 13) - 1)) ∧ ((¬ (F_X11_of 201 1 μ1) = ((μ1 201 13) - 1)) → (0 ≤ (0 : Int) ∧ (0 : Int) ≤ 1) ∧ R μ1 (some (kI 0))) ∧ (¬ (¬ (F_X11_of 201 1 μ1) = ((μ1 201 13) - 1)) → (0 ≤ (1 : Int) ∧ (1 : Int) ≤ 1) ∧ R μ1 (some (kI 1)))))
  exact ⟨c_201, H.1, fun μ1 rv2 hq3 => ⟨(H.2 μ1 rv2 hq3).1, fun hc5 => ⟨⟨by omega, by omega⟩, ((H.2 μ1 rv2 hq3).2.1 hc5)⟩, fun hc5 => ⟨c_201, ((H.2 μ1 rv2 hq3).2.2 hc5).1, ⟨c_201, ⟨⟨((H.2 μ1 rv2 hq3).2.2 hc5).2.1, ((H.2 μ1 rv2 hq3).2.2 hc5).2.2.1⟩, fun hc4 => ⟨⟨by omega, by omega⟩, (((H.2 μ1 rv2 hq3).2.2 hc5).2.2.2.1 hc4)⟩, fun hc4 => ⟨⟨by omega, by omega⟩, (((H.2 μ1 rv2 hq3).2.2 hc5).2.2.2.2 hc4)⟩⟩⟩⟩⟩⟩
theorem body_X11_isTree {o n : Int} {μ : Mem} {R : Mem → Option AV → Prop} (h : P_X11_isTree o n μ) (hR : ∀ (μ' : Mem) (r : Int), Q_X11_isTree o n μ μ' r → R μ' (some (kI r))) : V_X11_isTree R 0 [(0, kR o), (1, kI n)] μ := by
  obtain ⟨rfl, hs, rn⟩ := h
  refine vc_X11_isTree_0 ⟨⟨rfl, hs, rn⟩, fun m rv q => ?_⟩
  obtain ⟨q1, q2, q3, q4⟩ := q
  by_cases c : 0 ≤ n ∧ n < μ 202 0
  · obtain ⟨rfl, hb, hv, h12⟩ := q4 c
    have e1 : F_X11_of 201 1 m = vm m 1 0 := rfl
    have hl := hb.2.2.2.2.2.2.1
    have hp := hb.p
    have hpe := hb.2.1
    refine ⟨rr (by omega), fun q => absurd q (by omega), fun _ => ⟨⟨rfl, hb.1, by omega, by omega⟩, by rw [e1]; exact rr (by omega), rr (by omega), fun d => ?_, fun d => ?_⟩⟩
    · rw [e1] at d
      exact hR m 0 ⟨q1, q2, fun _ => rfl, fun e => absurd (by have := e.2; rw [← hv] at this; omega) d⟩
    · rw [e1] at d
      have d' : vm m 1 0 = m 201 13 - 1 := Classical.byContradiction d
      exact hR m 1 ⟨q1, q2, fun e => absurd ⟨c, by rw [← hv]; omega⟩ e, fun _ => ⟨rfl, hb, hv, h12⟩⟩
  · have e := q3 c
    subst e
    exact ⟨rr (by omega), fun _ => hR m 0 ⟨q1, q2, fun _ => rfl, fun e => absurd e.1 c⟩, fun q => absurd rfl q⟩
theorem ct_X11_isTree : Ct mX11_isTree 2 43 0 0 (nrmS S_X11_isTree) := by
  refine ct_vm (own := RX11) (by decide +kernel) rfl ?_ ?_
  · intro as μ Q hS
    unfold S_X11_isTree at hS
    split at hS
    · exact Nat.le_of_ble_eq_true rfl
    · exact hS.elim
  · intro as μ R hS
    unfold S_X11_isTree at hS
    split at hS
    · exact body_X11_isTree hS.1 hS.2
    · exact hS.elim
def P_X11_tree (o n : Int) (μ : Mem) : Prop := o = 201 ∧ SOk (stM μ) ∧ r32 n
def Q_X11_tree (_ n : Int) (μ μ' : Mem) (r : Int) : Prop := AskM μ μ' ∧ r = onT (stM μ).1 n 0 treeT
def S_X11_tree : S0t := fun as μ Q => match as with
  | [(2, x0), (0, x1)] => P_X11_tree x0 x1 μ ∧ ∀ (μ' : Mem) (r : Int), Q_X11_tree x0 x1 μ μ' r → Q μ' (some (kI r))
  | _ => False
theorem mono_X11_tree : Mono S_X11_tree := by
  intro as μ Q Q' h hS
  unfold S_X11_tree at hS ⊢
  split at hS
  · exact ⟨hS.1, fun μ' r q => h _ _ (hS.2 _ _ q)⟩
  · exact hS.elim
def iX11_tree : Inf := (kX11_tree, fTX11, pTX11, cTX11, lTX11, sTX11, [(329, 0, 1, 11, S_X11_isTree)])
theorem ok_X11_tree : infOK iX11_tree mX11_tree RX11 3 64 := ⟨kkX11_tree, fTX11_ok, pTX11_ok _, cTX11_ok, lTX11_ok, sTX11_ok, c_cons ⟨mX11_isTree, 2, 43, ct_X11_isTree, mmX11_isTree, vvX11_isTree, lkX11_329, ⟨by decide, by decide⟩, ⟨_, _, rfl⟩, by decide, mono_X11_isTree⟩ (c_nil)⟩
theorem mt_X11_tree : mtOK [] RX11 3 64 := mt_nil
abbrev V_X11_tree (R : Mem → Option AV → Prop) (pc : Nat) (lc : List (Nat × AV)) (μ : Mem) : Prop := VM mX11_tree RX11 3 64 R pc lc [] μ
set_option maxRecDepth 20000 in
theorem vc_X11_tree_0 {R : Mem → Option AV → Prop} {n : Int} {μ : Mem} (H : P_X11_isTree 201 n μ ∧ (∀ (μ1 : Mem) (rv2 : Int), Q_X11_isTree 201 n μ μ1 rv2 → (0 ≤ rv2 ∧ rv2 ≤ 1) ∧ R μ1 (some (kI rv2)))) : V_X11_tree R 0 [(0, kR 201), (1, kI n)] μ := by
  refine vm_step2 mt_X11_tree ok_X11_tree [] 1000 ?_
  show isC 201 11 ∧ P_X11_isTree 201 n μ ∧ (∀ (μ1 : Mem) (rv2 : Int), Q_X11_isTree 201 n μ μ1 rv2 → (0 ≤ rv2 ∧ rv2 ≤ 1) ∧ R μ1 (some (kI rv2)))
  exact ⟨c_201, H.1, fun μ1 rv2 hq3 => (H.2 μ1 rv2 hq3)⟩
theorem body_X11_tree {o n : Int} {μ : Mem} {R : Mem → Option AV → Prop} (h : P_X11_tree o n μ) (hR : ∀ (μ' : Mem) (r : Int), Q_X11_tree o n μ μ' r → R μ' (some (kI r))) : V_X11_tree R 0 [(0, kR o), (1, kI n)] μ := by
  obtain ⟨rfl, hs, rn⟩ := h
  refine vc_X11_tree_0 ⟨⟨rfl, hs, rn⟩, fun m rv q => ?_⟩
  obtain ⟨q1, q2, q3, q4⟩ := q
  have ask : AskM μ m := fun z hz => q1 z (by omega)
  by_cases c : 0 ≤ n ∧ n < μ 202 0
  · by_cases d : (stM μ).1.2.2 n 1 0 = (stM μ).1.2.2 n 0 0 - 1
    · have e := (q4 ⟨c, d⟩).1
      exact ⟨by omega, hR m _ ⟨ask, by rw [onM_yes c, e]; unfold treeT; rw [if_pos d]⟩⟩
    · have e := q3 (fun x => d x.2)
      exact ⟨by omega, hR m _ ⟨ask, by rw [onM_yes c, e]; unfold treeT; rw [if_neg d]⟩⟩
  · have e := q3 (fun x => c x.1)
    exact ⟨by omega, hR m _ ⟨ask, by rw [onM_no c, e]⟩⟩
theorem ct_X11_tree : Ct mX11_tree 3 64 0 0 (nrmS S_X11_tree) := by
  refine ct_vm (own := RX11) (by decide +kernel) rfl ?_ ?_
  · intro as μ Q hS
    unfold S_X11_tree at hS
    split at hS
    · exact Nat.le_of_ble_eq_true rfl
    · exact hS.elim
  · intro as μ R hS
    unfold S_X11_tree at hS
    split at hS
    · exact body_X11_tree hS.1 hS.2
    · exact hS.elim
def P_X11_worth (o n : Int) (μ : Mem) : Prop := o = 201 ∧ SOk (stM μ) ∧ r32 n
def Q_X11_worth (_ n : Int) (μ μ' : Mem) (r : Int) : Prop := AskM μ μ' ∧ r = onT (stM μ).1 n (-1) worthT
def S_X11_worth : S0t := fun as μ Q => match as with
  | [(2, x0), (0, x1)] => P_X11_worth x0 x1 μ ∧ ∀ (μ' : Mem) (r : Int), Q_X11_worth x0 x1 μ μ' r → Q μ' (some (kI r))
  | _ => False
theorem mono_X11_worth : Mono S_X11_worth := by
  intro as μ Q Q' h hS
  unfold S_X11_worth at hS ⊢
  split at hS
  · exact ⟨hS.1, fun μ' r q => h _ _ (hS.2 _ _ q)⟩
  · exact hS.elim
def iX11_worth : Inf := (kX11_worth, fTX11, pTX11, cTX11, lTX11, sTX11, [(329, 0, 1, 11, S_X11_isTree), (344, 0, 0, 11, S_X11_allMinutes)])
theorem ok_X11_worth : infOK iX11_worth mX11_worth RX11 3 64 := ⟨kkX11_worth, fTX11_ok, pTX11_ok _, cTX11_ok, lTX11_ok, sTX11_ok, c_cons ⟨mX11_isTree, 2, 43, ct_X11_isTree, mmX11_isTree, vvX11_isTree, lkX11_329, ⟨by decide, by decide⟩, ⟨_, _, rfl⟩, by decide, mono_X11_isTree⟩ (c_cons ⟨mX11_allMinutes, 1, 21, ct_X11_allMinutes, mmX11_allMinutes, vvX11_allMinutes, lkX11_344, ⟨by decide, by decide⟩, ⟨_, _, rfl⟩, by decide, mono_X11_allMinutes⟩ (c_nil))⟩
theorem mt_X11_worth : mtOK [] RX11 3 64 := mt_nil
abbrev V_X11_worth (R : Mem → Option AV → Prop) (pc : Nat) (lc : List (Nat × AV)) (μ : Mem) : Prop := VM mX11_worth RX11 3 64 R pc lc [] μ
set_option maxRecDepth 20000 in
theorem vc_X11_worth_0 {R : Mem → Option AV → Prop} {n : Int} {μ : Mem} (H : P_X11_isTree 201 n μ ∧ (∀ (μ1 : Mem) (rv2 : Int), Q_X11_isTree 201 n μ μ1 rv2 → r32 rv2 ∧ ((rv2 = 0) → R μ1 (some (kI (-1)))) ∧ (¬ (rv2 = 0) → P_X11_allMinutes 201 μ1 ∧ R μ1 (some (kI (F_X11_allMinutes 201 μ1)))))) : V_X11_worth R 0 [(0, kR 201), (1, kI n)] μ := by
  refine vm_step2 mt_X11_worth ok_X11_worth [] 1000 ?_
  show isC 201 11 ∧ P_X11_isTree 201 n μ ∧ (∀ (μ1 : Mem) (rv2 : Int), Q_X11_isTree 201 n μ μ1 rv2 → r32 rv2 ∧ ((rv2 = 0) → R μ1 (some (kI (-1)))) ∧ (¬ (rv2 = 0) → isC 201 11 ∧ P_X11_allMinutes 201 μ1 ∧ R μ1 (some (kI (F_X11_allMinutes 201 μ1)))))
  exact ⟨c_201, H.1, fun μ1 rv2 hq3 => ⟨(H.2 μ1 rv2 hq3).1, fun hc4 => ((H.2 μ1 rv2 hq3).2.1 hc4), fun hc4 => ⟨c_201, ((H.2 μ1 rv2 hq3).2.2 hc4).1, ((H.2 μ1 rv2 hq3).2.2 hc4).2⟩⟩⟩
theorem body_X11_worth {o n : Int} {μ : Mem} {R : Mem → Option AV → Prop} (h : P_X11_worth o n μ) (hR : ∀ (μ' : Mem) (r : Int), Q_X11_worth o n μ μ' r → R μ' (some (kI r))) : V_X11_worth R 0 [(0, kR o), (1, kI n)] μ := by
  obtain ⟨rfl, hs, rn⟩ := h
  refine vc_X11_worth_0 ⟨⟨rfl, hs, rn⟩, fun m rv q => ?_⟩
  obtain ⟨q1, q2, q3, q4⟩ := q
  have ask : AskM μ m := fun z hz => q1 z (by omega)
  by_cases c : 0 ≤ n ∧ n < μ 202 0
  · by_cases d : (stM μ).1.2.2 n 1 0 = (stM μ).1.2.2 n 0 0 - 1
    · obtain ⟨e, hb, hv, _⟩ := q4 ⟨c, d⟩
      subst e
      refine ⟨rr (by omega), fun q => absurd q (by omega), fun _ => ⟨⟨rfl, hb⟩, hR m _ ⟨ask, ?_⟩⟩⟩
      rw [onM_yes c]
      unfold worthT F_X11_allMinutes
      rw [if_pos d, hv]
    · have e := q3 (fun x => d x.2)
      subst e
      refine ⟨rr (by omega), fun _ => hR m _ ⟨ask, ?_⟩, fun q => absurd rfl q⟩
      rw [onM_yes c]
      unfold worthT
      rw [if_neg d]
  · have e := q3 (fun x => c x.1)
    subst e
    exact ⟨rr (by omega), fun _ => hR m _ ⟨ask, (onM_no c).symm⟩, fun q => absurd rfl q⟩
theorem ct_X11_worth : Ct mX11_worth 3 64 0 0 (nrmS S_X11_worth) := by
  refine ct_vm (own := RX11) (by decide +kernel) rfl ?_ ?_
  · intro as μ Q hS
    unfold S_X11_worth at hS
    split at hS
    · exact Nat.le_of_ble_eq_true rfl
    · exact hS.elim
  · intro as μ R hS
    unfold S_X11_worth at hS
    split at hS
    · exact body_X11_worth hS.1 hS.2
    · exact hS.elim
