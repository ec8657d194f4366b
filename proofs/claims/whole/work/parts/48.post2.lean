/-! how many places a set has -/
theorem popc_eq {s : Int} : popc s = sm (fun a => ind (hasB s a)) 8 := rfl
theorem popc_bd {s : Int} : 0 ≤ popc s ∧ popc s ≤ 8 := by
  have := sm_bd (f := fun a => ind (hasB s a)) (n := 8) (c := 0) (d := 1) (fun i _ _ => by show 0 ≤ ind _ ∧ ind _ ≤ 1; unfold ind; split <;> omega) (by omega)
  rw [popc_eq]; omega
theorem popc_rem {s a : Int} (a0 : 0 ≤ a) (a1 : a < 8) (h : hasB s a = true) : popc (remS s a) = popc s - 1 := by
  have e : ∀ b : Int, 0 ≤ b → b < 8 → ind (hasB (remS s a) b) = ind (hasB s b) + (if b = a then -1 else 0) := by
    intro b b0 b1
    rw [has_rem a0 b0]
    by_cases hb : b = a
    · subst hb; rw [h, if_pos rfl, decide_eq_false (by simp)]; rfl
    · rw [if_neg hb, decide_eq_true (show b ≠ a from hb), Bool.and_true]; omega
  rw [popc_eq, sm_congr e, sm_add (by omega), sm_one (by omega), if_pos ⟨a0, a1⟩]
  rw [popc_eq]; omega
theorem popc_zero {s : Int} (s0 : 0 ≤ s) (s1 : s < 256) (h : popc s ≤ 0) : s = 0 := by
  by_cases hs : s = 0
  · exact hs
  · have hn := least_ne (show 0 < s by omega) s1
    have := popc_rem hn.1.1 hn.1.2 hn.2.1
    have := popc_bd (s := remS s (leastB s))
    omega
theorem popc_0 : popc 0 = 0 := by decide +kernel
/-- behind the least of a set of two or more comes another -/
theorem sel_ex {s : Int} (s0 : 0 < s) (s1 : s < 256) (h : 2 ≤ popc s) : ∃ b : Int, 0 ≤ b ∧ b < 8 ∧ selB s b = true := by
  have hn := least_ne s0 s1
  have hp := popc_rem hn.1.1 hn.1.2 hn.2.1
  have hb := rem_bd (s := s) (a := leastB s) (by omega)
  have hr : remS s (leastB s) ≠ 0 := fun q => by rw [q, popc_0] at hp; omega
  have hn2 := least_ne (s := remS s (leastB s)) (by omega) (by omega)
  have h2 := hn2.2.1
  rw [has_rem hn.1.1 hn2.1.1] at h2
  have h3 := Bool.and_eq_true _ _ |>.mp h2
  refine ⟨leastB (remS s (leastB s)), hn2.1.1, hn2.1.2, ?_⟩
  unfold selB
  rw [h3.1, Bool.true_and]
  refine decide_eq_true ?_
  have h4 := of_decide_eq_true h3.2
  by_cases c : leastB (remS s (leastB s)) < leastB s
  · have := hn.2.2 _ hn2.1.1 c
    rw [h3.1] at this; cases this
  · omega
def rem2 (s b : Int) : Int := remS (remS s (leastB s)) b
theorem sel_has {s b : Int} (h : selB s b = true) : hasB s b = true ∧ leastB s < b := by
  unfold selB at h
  have := Bool.and_eq_true _ _ |>.mp h
  exact ⟨this.1, of_decide_eq_true this.2⟩
theorem rem2_has {s b a : Int} (s0 : 0 < s) (s1 : s < 256) (b0 : 0 ≤ b) (a0 : 0 ≤ a) : hasB (rem2 s b) a = (hasB s a && decide (a ≠ leastB s) && decide (a ≠ b)) := by
  have hn := least_ne s0 s1
  unfold rem2
  rw [has_rem b0 a0, has_rem hn.1.1 a0]
theorem rem2_bd {s b : Int} (s0 : 0 < s) (s1 : s < 256) : 0 ≤ rem2 s b ∧ rem2 s b < s := by
  have hn := least_ne s0 s1
  have h1 := rem_lt (by omega) hn.1.1 hn.2.1
  have h2 := rem_bd (s := s) (a := leastB s) (by omega)
  have h3 := rem_bd (s := remS s (leastB s)) (a := b) h2.1
  unfold rem2
  omega
theorem popc_rem2 {s b : Int} (s0 : 0 < s) (s1 : s < 256) (b0 : 0 ≤ b) (b1 : b < 8) (h : selB s b = true) : popc (rem2 s b) = popc s - 2 := by
  have hn := least_ne s0 s1
  have hs := sel_has h
  have h1 := popc_rem hn.1.1 hn.1.2 hn.2.1
  have h2 : hasB (remS s (leastB s)) b = true := by
    rw [has_rem hn.1.1 b0, hs.1, decide_eq_true (by omega)]; rfl
  have h3 := popc_rem b0 b1 h2
  unfold rem2
  omega
/-! the least minutes that couple a set's places -/
def cpS (W : Int → Int → Int) (n : Int) (F : Int → Int) (s : Int) : Int × Int := if s = 0 then (0, -1) else mnF (selB s) (fun b => W (leastB s) b + F (rem2 s b)) n
def cpN (W : Int → Int → Int) (n : Int) : Nat → Int → Int
  | 0, _ => 0
  | k + 1, s => (cpS W n (cpN W n k) s).1
def cpV (W : Int → Int → Int) (n s : Int) : Int := cpN W n s.toNat s
theorem cpN_st {W : Int → Int → Int} {n : Int} (hn : 0 ≤ n) : ∀ (k : Nat) (s : Int), 0 ≤ s → s < 256 → s ≤ k → cpN W n k s = cpN W n (k + 1) s
  | 0, s, s0, s1, hk => by
    have : s = 0 := by omega
    subst this
    rfl
  | k + 1, s, s0, s1, hk => by
    show (cpS W n (cpN W n k) s).1 = (cpS W n (cpN W n (k + 1)) s).1
    unfold cpS
    by_cases hs : s = 0
    · rw [if_pos hs, if_pos hs]
    · rw [if_neg hs, if_neg hs]
      congr 1
      refine mnF_congr hn (fun _ _ _ => rfl) (fun b b0 b1 hb => ?_)
      have hr := rem2_bd (b := b) (show 0 < s by omega) s1
      rw [cpN_st hn k (rem2 s b) hr.1 (by omega) (by omega)]
theorem cpN_up {W : Int → Int → Int} {n : Int} (hn : 0 ≤ n) {s : Int} (s0 : 0 ≤ s) (s1 : s < 256) (j : Nat) : cpN W n (s.toNat + j) s = cpV W n s := by
  induction j with
  | zero => rfl
  | succ j ih => rw [← ih, ← Nat.add_assoc]; exact (cpN_st hn _ s s0 s1 (by omega)).symm
theorem cpV_eq {W : Int → Int → Int} {n : Int} (hn : 0 ≤ n) {s : Int} (s0 : 0 ≤ s) (s1 : s < 256) : cpV W n s = (cpS W n (cpV W n) s).1 := by
  have h1 := cpN_up (W := W) hn s0 s1 1
  rw [← h1]
  show (cpS W n (cpN W n s.toNat) s).1 = _
  unfold cpS
  by_cases hs : s = 0
  · rw [if_pos hs, if_pos hs]
  · rw [if_neg hs, if_neg hs]
    congr 1
    refine mnF_congr hn (fun _ _ _ => rfl) (fun b b0 b1 hb => ?_)
    have hr := rem2_bd (b := b) (show 0 < s by omega) s1
    have h2 := cpN_up (W := W) hn (s := rem2 s b) hr.1 (by omega) (s.toNat - (rem2 s b).toNat)
    have e : (rem2 s b).toNat + (s.toNat - (rem2 s b).toNat) = s.toNat := by omega
    rw [e] at h2
    rw [h2]
theorem cpV_bd {W : Int → Int → Int} {n : Int} (hn : 0 ≤ n) (hW : ∀ a b : Int, 0 ≤ a → a < n → 0 ≤ b → b < n → 0 ≤ W a b ∧ W a b ≤ 140) : ∀ (k : Nat) (s : Int), 0 ≤ s → s < 256 → s ≤ k → (∀ a : Int, 0 ≤ a → a < 8 → hasB s a = true → a < n) → 0 ≤ cpV W n s ∧ cpV W n s ≤ 140 * k
  | 0, s, s0, s1, hk, _ => by
    have : s = 0 := by omega
    subst this
    show (0 : Int) ≤ 0 ∧ (0 : Int) ≤ 140 * 0
    omega
  | k + 1, s, s0, s1, hk, hs => by
    rw [cpV_eq hn s0 s1]
    unfold cpS
    by_cases h0 : s = 0
    · rw [if_pos h0]; show (0 : Int) ≤ 0 ∧ (0 : Int) ≤ _; omega
    · rw [if_neg h0]
      have hl := least_ne (show 0 < s by omega) s1
      rcases mnF_cases (q := selB s) (f := fun b => W (leastB s) b + cpV W n (rem2 s b)) (n := n) hn with ⟨e, _⟩ | ⟨b, hb, e, g1, _⟩
      · rw [e]; show (0 : Int) ≤ 0 ∧ (0 : Int) ≤ _; omega
      · rw [e]
        have hr := rem2_bd (b := b) (show 0 < s by omega) s1
        have ih := cpV_bd hn hW k (rem2 s b) hr.1 (by omega) (by omega) (fun a a0 a1 ha => by
          rw [rem2_has (by omega) s1 hb.1 a0] at ha
          exact hs a a0 a1 (Bool.and_eq_true _ _ |>.mp (Bool.and_eq_true _ _ |>.mp ha).1).1)
        have := hW (leastB s) b hl.1.1 (hs _ hl.1.1 hl.1.2 hl.2.1) hb.1 hb.2
        show 0 ≤ W (leastB s) b + cpV W n (rem2 s b) ∧ W (leastB s) b + cpV W n (rem2 s b) ≤ _
        omega
/-- a place's fellow -/
def felV (W : Int → Int → Int) (n s : Int) : Int := (cpS W n (cpV W n) s).2
def felN (W : Int → Int → Int) (n : Int) : Nat → Int → Int → Int
  | 0, _, _ => -1
  | k + 1, s, p => if s = 0 then -1 else if p = leastB s then felV W n s else if p = felV W n s then leastB s else felN W n k (rem2 s (felV W n s)) p
theorem felN_s {W : Int → Int → Int} {n : Int} {k : Nat} {s p : Int} : felN W n (k + 1) s p = if s = 0 then -1 else if p = leastB s then felV W n s else if p = felV W n s then leastB s else felN W n k (rem2 s (felV W n s)) p := rfl
theorem fel_in {W : Int → Int → Int} {n s : Int} (hn : 0 ≤ n) (s0 : 0 < s) (s1 : s < 256) (hs : ∀ a : Int, 0 ≤ a → a < 8 → hasB s a = true → a < n) (h2 : 2 ≤ popc s) : (0 ≤ felV W n s ∧ felV W n s < n) ∧ selB s (felV W n s) = true := by
  unfold felV cpS
  rw [if_neg (by omega)]
  rcases mnF_cases (q := selB s) (f := fun b => W (leastB s) b + cpV W n (rem2 s b)) (n := n) hn with ⟨_, h⟩ | ⟨b, hb, e, g1, _⟩
  · obtain ⟨b, b0, b1, hb⟩ := sel_ex s0 s1 h2
    have := h b b0 (hs b b0 b1 (sel_has hb).1)
    rw [hb] at this; cases this
  · rw [e]; exact ⟨hb, g1⟩
/-- the places with an odd number of lanes -/
def oddV (v : TV) : Int := bitsV (fun a => decide (lanesV v a % 2 = 1)) (v 0 0)
theorem odd_bd {v : TV} (ok : TVok v) : 0 ≤ oddV v ∧ oddV v < 256 := by
  have hp := ok.1
  have h := bitsV_bd (p := fun a => decide (lanesV v a % 2 = 1)) (n := v 0 0) (by omega)
  have h2 : 2 ^ (v 0 0).toNat ≤ 2 ^ 8 := Nat.pow_le_pow_right (by omega) (by omega)
  have h3 : (2 : Nat) ^ 8 = 256 := rfl
  unfold oddV
  omega
theorem odd_has {v : TV} (ok : TVok v) {a : Int} (a0 : 0 ≤ a) : hasB (oddV v) a = (decide (a < v 0 0) && decide (lanesV v a % 2 = 1)) := by
  have hp := ok.1
  exact bitsV_has (by omega) a a0
/-- each lane has two ends -/
theorem lanes_even {v : TV} (ok : TVok v) : sm (lanesV v) (v 0 0) % 2 = 0 := by
  have hp := ok.1
  have hl : ∀ a b : Int, 0 ≤ a → a < 8 → 0 ≤ b → b < 8 → (if v 7 (8 * a + b) = 0 then (0 : Int) else 1) = (if v 7 (8 * b + a) = 0 then 0 else 1) ∧ v 7 (8 * a + a) = 0 := fun a b a0 a1 b0 b1 => by
    have := ok.2.2.2.2.2.2.1 a b a0 a1 b0 b1
    rw [this.1]
    exact ⟨rfl, this.2.1⟩
  have key : ∀ m : Int, 0 ≤ m → m ≤ 8 → sm (fun a => sm (fun b => if v 7 (8 * a + b) = 0 then (0 : Int) else 1) m) m % 2 = 0 := by
    intro m hm
    refine nat_ind (P := fun m => m ≤ 8 → sm (fun a => sm (fun b => if v 7 (8 * a + b) = 0 then (0 : Int) else 1) m) m % 2 = 0) (fun _ => rfl) (fun i i0 ih h1 => ?_) m hm
    have h := ih (by omega)
    rw [sm_s i0, sm_s i0]
    have e : sm (fun a => sm (fun b => if v 7 (8 * a + b) = 0 then (0 : Int) else 1) (i + 1)) i = sm (fun a => sm (fun b => if v 7 (8 * a + b) = 0 then (0 : Int) else 1) i) i + sm (fun b => if v 7 (8 * i + b) = 0 then (0 : Int) else 1) i := by
      rw [← sm_add i0]
      refine sm_congr (fun a a0 a1 => ?_)
      rw [sm_s i0, (hl a i a0 (by omega) i0 (by omega)).1]
    rw [e, if_pos (hl i i i0 (by omega) i0 (by omega)).2]
    omega
  have := key (v 0 0) (by omega) hp.2
  exact this
theorem odd_even {v : TV} (ok : TVok v) : popc (oddV v) % 2 = 0 := by
  have hp := ok.1
  have h1 := lanes_even ok
  have key : ∀ m : Int, 0 ≤ m → m ≤ v 0 0 → (sm (fun a => ind (hasB (oddV v) a)) m - sm (lanesV v) m) % 2 = 0 := by
    intro m hm
    refine nat_ind (P := fun m => m ≤ v 0 0 → (sm (fun a => ind (hasB (oddV v) a)) m - sm (lanesV v) m) % 2 = 0) (fun _ => rfl) (fun i i0 ih h1 => ?_) m hm
    have h := ih (by omega)
    rw [sm_s i0, sm_s i0, odd_has ok i0, decide_eq_true (show i < v 0 0 by omega), Bool.true_and]
    by_cases q : lanesV v i % 2 = 1
    · rw [ind_t (decide_eq_true q)]; omega
    · rw [ind_f (decide_eq_false q)]; omega
  have h2 := key (v 0 0) (by omega) (Int.le_refl _)
  have h3 : ∀ m : Int, v 0 0 ≤ m → sm (fun a => ind (hasB (oddV v) a)) m = sm (fun a => ind (hasB (oddV v) a)) (v 0 0) := by
    intro m hm
    have := nat_ind (P := fun j => sm (fun a => ind (hasB (oddV v) a)) (v 0 0 + j) = sm (fun a => ind (hasB (oddV v) a)) (v 0 0)) (by rw [Int.add_zero]) (fun i i0 ih => by
      rw [← Int.add_assoc, sm_s (by omega), ih, odd_has ok (by omega), decide_eq_false (by omega), Bool.false_and]
      show _ + (0 : Int) = _
      omega) (m - v 0 0) (by omega)
    have e : v 0 0 + (m - v 0 0) = m := by omega
    rwa [e] at this
  rw [popc_eq, h3 8 hp.2]
  omega
def P_X4_couple (o t : Int) (μ : Mem) : Prop := o = 198 ∧ TB μ t ∧ WY μ t
def Q_X4_couple (_ t : Int) (μ μ' : Mem) : Prop := μ' 198 2 = cpV (wayV (tv μ t)) (tv μ t 0 0) (oddV (tv μ t)) ∧ (∀ j : Int, 0 ≤ j → j < 8 → μ' 200 j = if hasB (oddV (tv μ t)) j = true then felN (wayV (tv μ t)) (tv μ t 0 0) 8 (oddV (tv μ t)) j else -1) ∧ (∀ j : Int, j ≠ 2 → μ' 198 j = μ 198 j) ∧ ∀ z : Int, z ≠ 198 → z ≠ 199 → z ≠ 200 → μ' z = μ z
def S_X4_couple : S0t := fun as μ Q => match as with
  | [(2, x0), (2, x1)] => P_X4_couple x0 x1 μ ∧ ∀ (μ' : Mem) , Q_X4_couple x0 x1 μ μ'  → Q μ' none
  | _ => False
theorem mono_X4_couple : Mono S_X4_couple := by
  intro as μ Q Q' h hS
  unfold S_X4_couple at hS ⊢
  split at hS
  · exact ⟨hS.1, fun μ' q => h _ _ (hS.2 _ q)⟩
  · exact hS.elim
def iX4_couple : Inf := (kX4_couple, fTX4, pTX4, cTX4, lTX4, sTX4, [(24, 0, 1, 7, S_X7_lanesAt), (28, 1, 1, 0, S_J6_bitCount_0f7a4), (33, 0, 2, 4, S_X4_fellowIn), (37, 0, 3, 4, S_X4_costBy), (44, 1, 2, 0, S_J7_fill_53178), (50, 1, 1, 0, S_X10_leastOf)])
theorem ok_X4_couple : infOK iX4_couple mX4_couple RX4 4 91 := ⟨kkX4_couple, fTX4_ok, pTX4_ok _, cTX4_ok, lTX4_ok, sTX4_ok, c_cons ⟨mX7_lanesAt, 1, 22, ct_X7_lanesAt, mmX7_lanesAt, vvX7_lanesAt, lkX4_24, ⟨by decide, by decide⟩, ⟨_, _, rfl⟩, by decide, mono_X7_lanesAt⟩ (c_cons ⟨mJ6_bitCount_0f7a4, 0, 0, ct_J6_bitCount_0f7a4, mmJ6_bitCount_0f7a4, stJ6_bitCount_0f7a4, lkX4_28, ⟨by decide, by decide⟩, mono_J6_bitCount_0f7a4⟩ (c_cons ⟨mX4_fellowIn, 3, 66, ct_X4_fellowIn, mmX4_fellowIn, vvX4_fellowIn, lkX4_33, ⟨by decide, by decide⟩, ⟨_, _, rfl⟩, by decide, mono_X4_fellowIn⟩ (c_cons ⟨mX4_costBy, 2, 42, ct_X4_costBy, mmX4_costBy, vvX4_costBy, lkX4_37, ⟨by decide, by decide⟩, ⟨_, _, rfl⟩, by decide, mono_X4_costBy⟩ (c_cons ⟨mJ7_fill_53178, 0, 0, ct_J7_fill_53178, mmJ7_fill_53178, stJ7_fill_53178, lkX4_44, ⟨by decide, by decide⟩, mono_J7_fill_53178⟩ (c_cons ⟨mX10_leastOf, 1, 21, ct_X10_leastOf, mmX10_leastOf, stX10_leastOf, lkX4_50, ⟨by decide, by decide⟩, mono_X10_leastOf⟩ (c_nil))))))⟩
theorem mt_X4_couple : mtOK [] RX4 4 91 := mt_nil
abbrev V_X4_couple (R : Mem → Option AV → Prop) (pc : Nat) (lc : List (Nat × AV)) (μ : Mem) : Prop := VM mX4_couple RX4 4 91 R pc lc [] μ
set_option maxRecDepth 20000 in
theorem vc_X4_couple_0 {R : Mem → Option AV → Prop} {t : Int} {μ : Mem} (ht : isT t) (H : V_X4_couple R 4 [(0, kR 198), (1, kR t), (2, kI 0), (3, kI 0)] μ) : V_X4_couple R 0 [(0, kR 198), (1, kR t)] μ := by
  refine vm_step2 mt_X4_couple ok_X4_couple [(4, [0, 1, 2, 3]), (42, [0, 1, 2]), (44, [0, 1, 2, 3]), (84, [0, 1, 2, 3]), (100, [0, 1, 2]), (108, [0, 1, 2]), (113, [0, 1, 3, 4]), (147, [0, 1, 3, 4, 5, 6]), (156, [0, 1, 3, 4, 5, 6])] 1000 ?_
  show V_X4_couple R 4 [(0, kR 198), (1, kR t), (2, kI 0), (3, kI 0)] μ
  exact H
set_option maxRecDepth 20000 in
theorem vc_X4_couple_4 {R : Mem → Option AV → Prop} {odd a t : Int} {μ : Mem} (ht : isT t) (H : r32 a ∧ r32 (μ t 1) ∧ (((μ t 1) ≤ a) → V_X4_couple R 42 [(0, kR 198), (1, kR t), (2, kI odd)] (updm μ 199 0 0)) ∧ (¬ ((μ t 1) ≤ a) → P_X7_lanesAt t a μ ∧ r32 (band (F_X7_lanesAt t a μ) 1) ∧ ((¬ (band (F_X7_lanesAt t a μ) 1) = (1 : Int)) → V_X4_couple R 4 [(0, kR 198), (1, kR t), (2, kI odd), (3, kI (a + 1))] μ) ∧ (¬ (¬ (band (F_X7_lanesAt t a μ) 1) = (1 : Int)) → V_X4_couple R 4 [(0, kR 198), (1, kR t), (2, kI (bor odd (bshl 1 a))), (3, kI (a + 1))] μ))) : V_X4_couple R 4 [(0, kR 198), (1, kR t), (2, kI odd), (3, kI a)] μ := by
  refine vm_step2 mt_X4_couple ok_X4_couple [(4, [0, 1, 2, 3]), (42, [0, 1, 2]), (44, [0, 1, 2, 3]), (84, [0, 1, 2, 3]), (100, [0, 1, 2]), (108, [0, 1, 2]), (113, [0, 1, 3, 4]), (147, [0, 1, 3, 4, 5, 6]), (156, [0, 1, 3, 4, 5, 6])] 1000 ?_
  show isC t 7 ∧ (r32 a ∧ r32 (μ t 1)) ∧ (((μ t 1) ≤ a) → isC 198 4 ∧ inA 199 0 (0 : Int) ∧ V_X4_couple R 42 [(0, kR 198), (1, kR t), (2, kI odd)] (updm μ 199 0 0)) ∧ (¬ ((μ t 1) ≤ a) → isC t 7 ∧ P_X7_lanesAt t a μ ∧ (r32 (band (F_X7_lanesAt t a μ) 1) ∧ r32 (1 : Int)) ∧ ((¬ (band (F_X7_lanesAt t a μ) 1) = (1 : Int)) → V_X4_couple R 4 [(0, kR 198), (1, kR t), (2, kI odd), (3, kI (a + 1))] μ) ∧ (¬ (¬ (band (F_X7_lanesAt t a μ) 1) = (1 : Int)) → V_X4_couple R 4 [(0, kR 198), (1, kR t), (2, kI (bor odd (bshl 1 a))), (3, kI (a + 1))] μ))
  exact ⟨isT_C ht, ⟨⟨H.1, H.2.1⟩, fun hc2 => ⟨c_198, ⟨isArr.in a_199 (by omega) (by omega), (H.2.2.1 hc2)⟩⟩, fun hc2 => ⟨isT_C ht, (H.2.2.2 hc2).1, ⟨⟨(H.2.2.2 hc2).2.1, by unfold r32; omega⟩, fun hc1 => ((H.2.2.2 hc2).2.2.1 hc1), fun hc1 => ((H.2.2.2 hc2).2.2.2 hc1)⟩⟩⟩⟩
set_option maxRecDepth 20000 in
theorem vc_X4_couple_42 {R : Mem → Option AV → Prop} {odd t : Int} {μ : Mem} (ht : isT t) (H : V_X4_couple R 44 [(0, kR 198), (1, kR t), (2, kI odd), (3, kI 1)] μ) : V_X4_couple R 42 [(0, kR 198), (1, kR t), (2, kI odd)] μ := by
  refine vm_step2 mt_X4_couple ok_X4_couple [(4, [0, 1, 2, 3]), (42, [0, 1, 2]), (44, [0, 1, 2, 3]), (84, [0, 1, 2, 3]), (100, [0, 1, 2]), (108, [0, 1, 2]), (113, [0, 1, 3, 4]), (147, [0, 1, 3, 4, 5, 6]), (156, [0, 1, 3, 4, 5, 6])] 1000 ?_
  show V_X4_couple R 44 [(0, kR 198), (1, kR t), (2, kI odd), (3, kI 1)] μ
  exact H
set_option maxRecDepth 20000 in
theorem vc_X4_couple_44 {R : Mem → Option AV → Prop} {odd a t : Int} {μ : Mem} (ht : isT t) (H : r32 a ∧ r32 odd ∧ ((odd < a) → (0 ≤ odd ∧ odd < 256) ∧ V_X4_couple R 100 [(0, kR 198), (1, kR t), (2, kI odd)] (updm μ 198 2 (μ 199 odd))) ∧ (¬ (odd < a) → r32 (band a (bxor odd (-1))) ∧ ((¬ (band a (bxor odd (-1))) = 0) → V_X4_couple R 84 [(0, kR 198), (1, kR t), (2, kI odd), (3, kI a)] μ) ∧ (¬ (¬ (band a (bxor odd (-1))) = 0) → P_J6_bitCount_0f7a4 a μ ∧ r32 (band (F_J6_bitCount_0f7a4 a μ) 1) ∧ ((¬ (band (F_J6_bitCount_0f7a4 a μ) 1) = 0) → V_X4_couple R 84 [(0, kR 198), (1, kR t), (2, kI odd), (3, kI a)] μ) ∧ (¬ (¬ (band (F_J6_bitCount_0f7a4 a μ) 1) = 0) → P_X4_fellowIn 198 t a μ ∧ P_X4_costBy 198 t a (F_X4_fellowIn 198 t a μ) μ ∧ (0 ≤ a ∧ a < 256) ∧ V_X4_couple R 84 [(0, kR 198), (1, kR t), (2, kI odd), (3, kI a)] (updm μ 199 a (F_X4_costBy 198 t a (F_X4_fellowIn 198 t a μ) μ)))))) : V_X4_couple R 44 [(0, kR 198), (1, kR t), (2, kI odd), (3, kI a)] μ := by
  refine vm_step2 mt_X4_couple ok_X4_couple [(4, [0, 1, 2, 3]), (42, [0, 1, 2]), (44, [0, 1, 2, 3]), (84, [0, 1, 2, 3]), (100, [0, 1, 2]), (108, [0, 1, 2]), (113, [0, 1, 3, 4]), (147, [0, 1, 3, 4, 5, 6]), (156, [0, 1, 3, 4, 5, 6])] 1000 ?_
  show (r32 a ∧ r32 odd) ∧ ((odd < a) → isC 198 4 ∧ inA 199 0 odd ∧ isC 198 4 ∧ 0 = 0 ∧ True ∧ V_X4_couple R 100 [(0, kR 198), (1, kR t), (2, kI odd)] (updm μ 198 2 (μ 199 odd))) ∧ (¬ (odd < a) → r32 (band a (bxor odd (-1))) ∧ ((¬ (band a (bxor odd (-1))) = 0) → V_X4_couple R 84 [(0, kR 198), (1, kR t), (2, kI odd), (3, kI a)] μ) ∧ (¬ (¬ (band a (bxor odd (-1))) = 0) → P_J6_bitCount_0f7a4 a μ ∧ r32 (band (F_J6_bitCount_0f7a4 a μ) 1) ∧ ((¬ (band (F_J6_bitCount_0f7a4 a μ) 1) = 0) → V_X4_couple R 84 [(0, kR 198), (1, kR t), (2, kI odd), (3, kI a)] μ) ∧ (¬ (¬ (band (F_J6_bitCount_0f7a4 a μ) 1) = 0) → isC 198 4 ∧ isC 198 4 ∧ P_X4_fellowIn 198 t a μ ∧ isC 198 4 ∧ P_X4_costBy 198 t a (F_X4_fellowIn 198 t a μ) μ ∧ inA 199 0 a ∧ V_X4_couple R 84 [(0, kR 198), (1, kR t), (2, kI odd), (3, kI a)] (updm μ 199 a (F_X4_costBy 198 t a (F_X4_fellowIn 198 t a μ) μ)))))
  exact ⟨⟨H.1, H.2.1⟩, fun hc5 => ⟨c_198, ⟨isArr.in a_199 (H.2.2.1 hc5).1.1 (H.2.2.1 hc5).1.2, ⟨c_198, rfl, trivial, (H.2.2.1 hc5).2⟩⟩⟩, fun hc5 => ⟨(H.2.2.2 hc5).1, fun hc4 => ((H.2.2.2 hc5).2.1 hc4), fun hc4 => ⟨((H.2.2.2 hc5).2.2 hc4).1, ⟨((H.2.2.2 hc5).2.2 hc4).2.1, fun hc3 => (((H.2.2.2 hc5).2.2 hc4).2.2.1 hc3), fun hc3 => ⟨c_198, ⟨c_198, (((H.2.2.2 hc5).2.2 hc4).2.2.2 hc3).1, ⟨c_198, (((H.2.2.2 hc5).2.2 hc4).2.2.2 hc3).2.1, ⟨isArr.in a_199 (((H.2.2.2 hc5).2.2 hc4).2.2.2 hc3).2.2.1.1 (((H.2.2.2 hc5).2.2 hc4).2.2.2 hc3).2.2.1.2, (((H.2.2.2 hc5).2.2 hc4).2.2.2 hc3).2.2.2⟩⟩⟩⟩⟩⟩⟩⟩
set_option maxRecDepth 20000 in
theorem vc_X4_couple_84 {R : Mem → Option AV → Prop} {odd a t : Int} {μ : Mem} (ht : isT t) (H : V_X4_couple R 44 [(0, kR 198), (1, kR t), (2, kI odd), (3, kI (a + 1))] μ) : V_X4_couple R 84 [(0, kR 198), (1, kR t), (2, kI odd), (3, kI a)] μ := by
  refine vm_step2 mt_X4_couple ok_X4_couple [(4, [0, 1, 2, 3]), (42, [0, 1, 2]), (44, [0, 1, 2, 3]), (84, [0, 1, 2, 3]), (100, [0, 1, 2]), (108, [0, 1, 2]), (113, [0, 1, 3, 4]), (147, [0, 1, 3, 4, 5, 6]), (156, [0, 1, 3, 4, 5, 6])] 1000 ?_
  show V_X4_couple R 44 [(0, kR 198), (1, kR t), (2, kI odd), (3, kI (a + 1))] μ
  exact H
set_option maxRecDepth 20000 in
theorem vc_X4_couple_100 {R : Mem → Option AV → Prop} {odd t : Int} {μ : Mem} (ht : isT t) (H : P_J7_fill_53178 200 (-1) μ ∧ V_X4_couple R 108 [(0, kR 198), (1, kR t), (2, kI odd)] (M_J7_fill_53178 200 (-1) μ)) : V_X4_couple R 100 [(0, kR 198), (1, kR t), (2, kI odd)] μ := by
  refine vm_step2 mt_X4_couple ok_X4_couple [(4, [0, 1, 2, 3]), (42, [0, 1, 2]), (44, [0, 1, 2, 3]), (84, [0, 1, 2, 3]), (100, [0, 1, 2]), (108, [0, 1, 2]), (113, [0, 1, 3, 4]), (147, [0, 1, 3, 4, 5, 6]), (156, [0, 1, 3, 4, 5, 6])] 1000 ?_
  show isC 198 4 ∧ P_J7_fill_53178 200 (-1) μ ∧ V_X4_couple R 108 [(0, kR 198), (1, kR t), (2, kI odd)] (M_J7_fill_53178 200 (-1) μ)
  exact ⟨c_198, ⟨H.1, H.2⟩⟩
set_option maxRecDepth 20000 in
theorem vc_X4_couple_108 {R : Mem → Option AV → Prop} {odd t : Int} {μ : Mem} (ht : isT t) (H : V_X4_couple R 113 [(0, kR 198), (1, kR t), (3, kI odd), (4, kI 0)] μ) : V_X4_couple R 108 [(0, kR 198), (1, kR t), (2, kI odd)] μ := by
  refine vm_step2 mt_X4_couple ok_X4_couple [(4, [0, 1, 2, 3]), (42, [0, 1, 2]), (44, [0, 1, 2, 3]), (84, [0, 1, 2, 3]), (100, [0, 1, 2]), (108, [0, 1, 2]), (113, [0, 1, 3, 4]), (147, [0, 1, 3, 4, 5, 6]), (156, [0, 1, 3, 4, 5, 6])] 1000 ?_
  show V_X4_couple R 113 [(0, kR 198), (1, kR t), (3, kI odd), (4, kI 0)] μ
  exact H
set_option maxRecDepth 20000 in
theorem vc_X4_couple_113 {R : Mem → Option AV → Prop} {a v4 t : Int} {μ : Mem} (ht : isT t) (H : r32 v4 ∧ (((8 : Int) ≤ v4) → R μ none) ∧ (¬ ((8 : Int) ≤ v4) → r32 a ∧ ((a = 0) → R μ none) ∧ (¬ (a = 0) → P_X10_leastOf a μ ∧ P_X4_fellowIn 198 t a μ ∧ (0 ≤ (F_X10_leastOf a μ) ∧ (F_X10_leastOf a μ) < 8) ∧ V_X4_couple R 147 [(0, kR 198), (1, kR t), (3, kI a), (4, kI v4), (5, kI (F_X10_leastOf a μ)), (6, kI (F_X4_fellowIn 198 t a μ))] (updm μ 200 (F_X10_leastOf a μ) (F_X4_fellowIn 198 t a μ))))) : V_X4_couple R 113 [(0, kR 198), (1, kR t), (3, kI a), (4, kI v4)] μ := by
  refine vm_step2 mt_X4_couple ok_X4_couple [(4, [0, 1, 2, 3]), (42, [0, 1, 2]), (44, [0, 1, 2, 3]), (84, [0, 1, 2, 3]), (100, [0, 1, 2]), (108, [0, 1, 2]), (113, [0, 1, 3, 4]), (147, [0, 1, 3, 4, 5, 6]), (156, [0, 1, 3, 4, 5, 6])] 1000 ?_
  show (r32 v4 ∧ r32 (8 : Int)) ∧ (((8 : Int) ≤ v4) → R μ none) ∧ (¬ ((8 : Int) ≤ v4) → r32 a ∧ ((a = 0) → R μ none) ∧ (¬ (a = 0) → P_X10_leastOf a μ ∧ isC 198 4 ∧ P_X4_fellowIn 198 t a μ ∧ isC 198 4 ∧ inA 200 0 (F_X10_leastOf a μ) ∧ V_X4_couple R 147 [(0, kR 198), (1, kR t), (3, kI a), (4, kI v4), (5, kI (F_X10_leastOf a μ)), (6, kI (F_X4_fellowIn 198 t a μ))] (updm μ 200 (F_X10_leastOf a μ) (F_X4_fellowIn 198 t a μ))))
  exact ⟨⟨H.1, by unfold r32; omega⟩, fun hc7 => (H.2.1 hc7), fun hc7 => ⟨(H.2.2 hc7).1, fun hc6 => ((H.2.2 hc7).2.1 hc6), fun hc6 => ⟨((H.2.2 hc7).2.2 hc6).1, ⟨c_198, ((H.2.2 hc7).2.2 hc6).2.1, ⟨c_198, ⟨isArr.in a_200 ((H.2.2 hc7).2.2 hc6).2.2.1.1 ((H.2.2 hc7).2.2 hc6).2.2.1.2, ((H.2.2 hc7).2.2 hc6).2.2.2⟩⟩⟩⟩⟩⟩
set_option maxRecDepth 20000 in
theorem vc_X4_couple_147 {R : Mem → Option AV → Prop} {a v4 v5 v6 t : Int} {μ : Mem} (ht : isT t) (H : (0 ≤ v6 ∧ v6 < 8) ∧ V_X4_couple R 156 [(0, kR 198), (1, kR t), (3, kI a), (4, kI v4), (5, kI v5), (6, kI v6)] (updm μ 200 v6 v5)) : V_X4_couple R 147 [(0, kR 198), (1, kR t), (3, kI a), (4, kI v4), (5, kI v5), (6, kI v6)] μ := by
  refine vm_step2 mt_X4_couple ok_X4_couple [(4, [0, 1, 2, 3]), (42, [0, 1, 2]), (44, [0, 1, 2, 3]), (84, [0, 1, 2, 3]), (100, [0, 1, 2]), (108, [0, 1, 2]), (113, [0, 1, 3, 4]), (147, [0, 1, 3, 4, 5, 6]), (156, [0, 1, 3, 4, 5, 6])] 1000 ?_
  show isC 198 4 ∧ inA 200 0 v6 ∧ V_X4_couple R 156 [(0, kR 198), (1, kR t), (3, kI a), (4, kI v4), (5, kI v5), (6, kI v6)] (updm μ 200 v6 v5)
  exact ⟨c_198, ⟨isArr.in a_200 H.1.1 H.1.2, H.2⟩⟩
set_option maxRecDepth 20000 in
theorem vc_X4_couple_156 {R : Mem → Option AV → Prop} {a v4 v5 v6 t : Int} {μ : Mem} (ht : isT t) (H : V_X4_couple R 113 [(0, kR 198), (1, kR t), (3, kI (band a (bxor (bor (bshl 1 v5) (bshl 1 v6)) (-1)))), (4, kI (v4 + 1))] μ) : V_X4_couple R 156 [(0, kR 198), (1, kR t), (3, kI a), (4, kI v4), (5, kI v5), (6, kI v6)] μ := by
  refine vm_step2 mt_X4_couple ok_X4_couple [(4, [0, 1, 2, 3]), (42, [0, 1, 2]), (44, [0, 1, 2, 3]), (84, [0, 1, 2, 3]), (100, [0, 1, 2]), (108, [0, 1, 2]), (113, [0, 1, 3, 4]), (147, [0, 1, 3, 4, 5, 6]), (156, [0, 1, 3, 4, 5, 6])] 1000 ?_
  show V_X4_couple R 113 [(0, kR 198), (1, kR t), (3, kI (band a (bxor (bor (bshl 1 v5) (bshl 1 v6)) (-1)))), (4, kI (v4 + 1))] μ
  exact H
theorem body_X4_couple {o t : Int} {μ : Mem} {R : Mem → Option AV → Prop} (h : P_X4_couple o t μ) (hR : ∀ μ' : Mem, Q_X4_couple o t μ μ' → R μ' none) : V_X4_couple R 0 [(0, kR o), (1, kR t)] μ := by
  obtain ⟨rfl, ⟨ht, ok⟩, hw⟩ := h
  have hp : 2 ≤ μ t 1 ∧ μ t 1 ≤ 8 := ok.1
  have hpe : tv μ t 0 0 = μ t 1 := rfl
  have hT := isT_hi ht
  have fr : ∀ {m : Mem}, (∀ z : Int, z ≠ 198 → z ≠ 199 → z ≠ 200 → m z = μ z) → ∀ z : Int, t ≤ z → z ≤ t + 9 → m z = μ z := fun h z z0 z1 => h z (by omega) (by omega) (by omega)
  have wy : ∀ {m : Mem}, (∀ z : Int, z ≠ 198 → z ≠ 199 → z ≠ 200 → m z = μ z) → WY m t := fun {m} h => by
    have e := tv_frame (fr h)
    unfold WY
    rw [e, h (t + 2) (by omega) (by omega) (by omega)]
    exact hw
  have hW : ∀ a b : Int, 0 ≤ a → a < tv μ t 0 0 → 0 ≤ b → b < tv μ t 0 0 → 0 ≤ wayV (tv μ t) a b ∧ wayV (tv μ t) a b ≤ 140 := fun a b a0 a1 b0 b1 => (hw a b a0 a1 b0 b1).2
  have hob := odd_bd ok
  have hoh : ∀ s : Int, subS s (oddV (tv μ t)) → ∀ a : Int, 0 ≤ a → a < 8 → hasB s a = true → a < tv μ t 0 0 := fun s hs a a0 a1 ha => by
    have := hs a a0 a1 ha
    rw [odd_has ok a0] at this
    exact of_decide_eq_true (Bool.and_eq_true _ _ |>.mp this).1
  have cbd : ∀ s : Int, 0 ≤ s → s < 256 → subS s (oddV (tv μ t)) → 0 ≤ cpV (wayV (tv μ t)) (tv μ t 0 0) s ∧ cpV (wayV (tv μ t)) (tv μ t 0 0) s ≤ 35700 := fun s s0 s1 hs => by
    have := cpV_bd (n := tv μ t 0 0) (by omega) hW 255 s s0 s1 (by omega) (hoh s hs)
    omega
  have sub2 : ∀ s b : Int, 0 < s → s < 256 → 0 ≤ b → subS s (oddV (tv μ t)) → subS (rem2 s b) (oddV (tv μ t)) := fun s b s0 s1 b0 hs a a0 a1 ha => by
    rw [rem2_has s0 s1 b0 a0] at ha
    exact hs a a0 a1 (Bool.and_eq_true _ _ |>.mp (Bool.and_eq_true _ _ |>.mp ha).1).1
  -- what fellowIn tells, where smaller sets are known
  have fel : ∀ (s : Int) (m : Mem), 0 < s → s < 256 → subS s (oddV (tv μ t)) → popc s % 2 = 0 → (∀ z : Int, z ≠ 198 → z ≠ 199 → z ≠ 200 → m z = μ z) → (∀ z : Int, 0 ≤ z → z < s → subS z (oddV (tv μ t)) → popc z % 2 = 0 → m 199 z = cpV (wayV (tv μ t)) (tv μ t 0 0) z) →
      P_X4_fellowIn 198 t s m ∧ F_X4_fellowIn 198 t s m = felV (wayV (tv μ t)) (tv μ t 0 0) s ∧ F_X4_costBy 198 t s (felV (wayV (tv μ t)) (tv μ t 0 0) s) m = cpV (wayV (tv μ t)) (tv μ t 0 0) s ∧ P_X4_costBy 198 t s (felV (wayV (tv μ t)) (tv μ t 0 0) s) m ∧ ((0 ≤ felV (wayV (tv μ t)) (tv μ t 0 0) s ∧ felV (wayV (tv μ t)) (tv μ t 0 0) s < tv μ t 0 0) ∧ selB s (felV (wayV (tv μ t)) (tv μ t 0 0) s) = true) := by
    intro s m s0 s1 hs he hf hc
    have etv := tv_frame (fr hf)
    have hl := least_ne s0 s1
    have hln := hoh s hs _ hl.1.1 hl.1.2 hl.2.1
    have h2 : 2 ≤ popc s := by
      by_cases q : popc s ≤ 0
      · have := popc_zero (by omega) s1 q; omega
      · omega
    have hfi := fel_in (W := wayV (tv μ t)) (n := tv μ t 0 0) (by omega) s0 s1 (hoh s hs) h2
    have hcs : ∀ b : Int, 0 ≤ b → b < tv μ t 0 0 → selB s b = true → m 199 (rem2 s b) = cpV (wayV (tv μ t)) (tv μ t 0 0) (rem2 s b) := fun b b0 b1 hb => by
      have hr := rem2_bd (b := b) s0 s1
      have hp2 := popc_rem2 s0 s1 b0 (by omega) hb
      exact hc _ hr.1 hr.2 (sub2 s b s0 s1 b0 hs) (by omega)
    have em : mnF (selB s) (fun b => wayV (tv μ t) (leastB s) b + m 199 (rem2 s b)) (tv μ t 0 0) = cpS (wayV (tv μ t)) (tv μ t 0 0) (cpV (wayV (tv μ t)) (tv μ t 0 0)) s := by
      unfold cpS
      rw [if_neg (by omega)]
      exact mnF_congr (by omega) (fun _ _ _ => rfl) (fun b b0 b1 hb => by rw [hcs b b0 b1 hb])
    refine ⟨⟨rfl, TB_frame ⟨ht, ok⟩ (fr hf), wy hf, ⟨s0, s1⟩, by rw [etv]; exact hln, ?_⟩, ?_, ?_, ⟨rfl, TB_frame ⟨ht, ok⟩ (fr hf), wy hf, ⟨s0, s1⟩, by rw [etv]; exact hln, by rw [etv]; exact hfi.1⟩, hfi⟩
    · rw [etv]
      intro b b0 b1 hb
      have hr := rem2_bd (b := b) s0 s1
      have := cbd (rem2 s b) hr.1 (by omega) (sub2 s b s0 s1 b0 hs)
      have e := hcs b b0 b1 hb
      unfold rem2 at e this
      rw [e]
      omega
    · unfold F_X4_fellowIn
      rw [etv]
      show max 0 (mnF (selB s) (fun b => wayV (tv μ t) (leastB s) b + m 199 (rem2 s b)) (tv μ t 0 0)).2 = _
      rw [em]
      show max 0 (felV _ _ s) = _
      omega
    · unfold F_X4_costBy
      rw [etv]
      show wayV (tv μ t) (leastB s) (felV _ _ s) + m 199 (rem2 s (felV _ _ s)) = _
      rw [hcs _ hfi.1.1 hfi.1.2 hfi.2, cpV_eq (by omega) (by omega) s1]
      have e2 : felV (wayV (tv μ t)) (tv μ t 0 0) s = (cpS (wayV (tv μ t)) (tv μ t 0 0) (cpV (wayV (tv μ t)) (tv μ t 0 0)) s).2 := rfl
      rw [e2]
      unfold cpS
      rw [if_neg (by omega)]
      rcases mnF_cases (q := selB s) (f := fun b => wayV (tv μ t) (leastB s) b + cpV (wayV (tv μ t)) (tv μ t 0 0) (rem2 s b)) (n := tv μ t 0 0) (by omega) with ⟨e, hx⟩ | ⟨b, hb, e, g1, _⟩
      · have := hx _ hfi.1.1 hfi.1.2
        rw [hfi.2] at this; cases this
      · rw [e]
  -- the fellows
  have pt : ∀ (k : Nat) (i s : Int) (m : Mem), i + k = 8 → 0 ≤ i → 0 ≤ s → s < 256 → subS s (oddV (tv μ t)) → popc s % 2 = 0 → popc s ≤ 2 * k → (∀ z : Int, z ≠ 198 → z ≠ 199 → z ≠ 200 → m z = μ z) → (∀ j : Int, j ≠ 2 → m 198 j = μ 198 j) → m 198 2 = cpV (wayV (tv μ t)) (tv μ t 0 0) (oddV (tv μ t)) → (∀ z : Int, 0 ≤ z → z < 256 → subS z (oddV (tv μ t)) → popc z % 2 = 0 → m 199 z = cpV (wayV (tv μ t)) (tv μ t 0 0) z) → (∀ j : Int, 0 ≤ j → j < 8 → (if hasB s j = true then felN (wayV (tv μ t)) (tv μ t 0 0) k s j else m 200 j) = if hasB (oddV (tv μ t)) j = true then felN (wayV (tv μ t)) (tv μ t 0 0) 8 (oddV (tv μ t)) j else -1) → V_X4_couple R 113 [(0, kR 198), (1, kR t), (3, kI s), (4, kI i)] m := by
    intro k
    induction k with
    | zero =>
      intro i s m hik i0 s0 s1 hs he hpk hf h8 h82 hc hfe
      have hz := popc_zero s0 s1 (by omega)
      subst hz
      refine vc_X4_couple_113 ht ⟨rr (by omega), fun _ => hR m ⟨h82, fun j j0 j1 => ?_, h8, hf⟩, fun c => absurd (show (8 : Int) ≤ i by omega) c⟩
      have := hfe j j0 j1
      rw [has_0, if_neg (by simp)] at this
      exact this
    | succ k ih =>
      intro i s m hik i0 s0 s1 hs he hpk hf h8 h82 hc hfe
      by_cases hs0 : s = 0
      · subst hs0
        refine vc_X4_couple_113 ht ⟨rr (by omega), fun c => absurd c (by omega), fun _ => ⟨rr (by omega), fun _ => hR m ⟨h82, fun j j0 j1 => ?_, h8, hf⟩, fun c => absurd rfl c⟩⟩
        have := hfe j j0 j1
        rw [has_0, if_neg (by simp)] at this
        exact this
      · obtain ⟨f1, f2, f3, f4, f5⟩ := fel s m (by omega) s1 hs he hf (fun z z0 z1 => hc z z0 (by omega))
        have hl := least_ne (show 0 < s by omega) s1
        have hln := hoh s hs _ hl.1.1 hl.1.2 hl.2.1
        refine vc_X4_couple_113 ht ?_
        unfold P_X10_leastOf F_X10_leastOf
        rw [f2]
        have e : max 0 (leastB s) = leastB s := by omega
        rw [e]
        refine ⟨rr (by omega), fun c => absurd c (by omega), fun _ => ⟨rr (by omega), fun c => absurd c hs0, fun _ => ⟨by omega, f1, by omega, vc_X4_couple_147 ht ⟨by omega, vc_X4_couple_156 ht ?_⟩⟩⟩⟩
        rw [b_rem2 (by omega) (by omega) hl.1.1 (by omega) f5.1.1 (by omega)]
        have hr := rem2_bd (b := felV (wayV (tv μ t)) (tv μ t 0 0) s) (show 0 < s by omega) s1
        have hp2 := popc_rem2 (show 0 < s by omega) s1 f5.1.1 (by omega) f5.2
        have hsel := sel_has f5.2
        refine ih (i + 1) (rem2 s (felV (wayV (tv μ t)) (tv μ t 0 0) s)) _ (by omega) (by omega) hr.1 (by omega) (sub2 s _ (by omega) s1 f5.1.1 hs) (by omega) (by omega) (fun z z0 z1 z2 => by rw [ru_ne z2, ru_ne z2]; exact hf z z0 z1 z2) (fun j hj => by rw [ru_ne (by omega), ru_ne (by omega)]; exact h8 j hj) (by rw [ru_ne (by omega), ru_ne (by omega)]; exact h82) (fun z z0 z1 z2 z3 => by rw [ru_ne (by omega), ru_ne (by omega)]; exact hc z z0 z1 z2 z3) (fun j j0 j1 => ?_)
        rw [← hfe j j0 j1, rem2_has (by omega) s1 f5.1.1 j0, felN_s, if_neg hs0, ru_eq, ru_eq]
        by_cases c1 : j = leastB s
        · subst c1
          rw [hl.2.1, if_pos rfl, if_pos rfl, decide_eq_false (show ¬ leastB s ≠ leastB s from fun q => q rfl)]
          simp only [Bool.and_false, Bool.false_and]
          rw [if_neg (by simp), r1_ne (by omega), r1_eq]
        · by_cases c2 : j = felV (wayV (tv μ t)) (tv μ t 0 0) s
          · rw [if_neg c1, if_pos c2, decide_eq_false (show ¬ j ≠ felV (wayV (tv μ t)) (tv μ t 0 0) s from fun q => q c2), Bool.and_false, if_neg (by simp)]
            rw [c2, r1_eq, if_pos hsel.1]
          · rw [decide_eq_true (show j ≠ leastB s from c1), decide_eq_true (show j ≠ felV (wayV (tv μ t)) (tv μ t 0 0) s from c2), Bool.and_true, Bool.and_true, if_neg c1, if_neg c2, r1_ne c2, r1_ne c1]
  -- the costs
  have ps : ∀ s : Int, 1 ≤ s → s ≤ oddV (tv μ t) + 1 → ∀ m : Mem, (∀ z : Int, z ≠ 198 → z ≠ 199 → z ≠ 200 → m z = μ z) → m 198 = μ 198 → (∀ z : Int, 0 ≤ z → z < s → subS z (oddV (tv μ t)) → popc z % 2 = 0 → m 199 z = cpV (wayV (tv μ t)) (tv μ t 0 0) z) → V_X4_couple R 44 [(0, kR 198), (1, kR t), (2, kI (oddV (tv μ t))), (3, kI s)] m := by
    refine up_ind (P := fun s => ∀ m : Mem, (∀ z : Int, z ≠ 198 → z ≠ 199 → z ≠ 200 → m z = μ z) → m 198 = μ 198 → (∀ z : Int, 0 ≤ z → z < s → subS z (oddV (tv μ t)) → popc z % 2 = 0 → m 199 z = cpV (wayV (tv μ t)) (tv μ t 0 0) z) → V_X4_couple R 44 [(0, kR 198), (1, kR t), (2, kI (oddV (tv μ t))), (3, kI s)] m) ?_ ?_
    · intro s s0 s1 ih m hf h8 hc
      have hsk : ∀ m : Mem, (¬ (subS s (oddV (tv μ t)) ∧ popc s % 2 = 0)) → (∀ z : Int, z ≠ 198 → z ≠ 199 → z ≠ 200 → m z = μ z) → m 198 = μ 198 → (∀ z : Int, 0 ≤ z → z < s → subS z (oddV (tv μ t)) → popc z % 2 = 0 → m 199 z = cpV (wayV (tv μ t)) (tv μ t 0 0) z) → V_X4_couple R 84 [(0, kR 198), (1, kR t), (2, kI (oddV (tv μ t))), (3, kI s)] m := fun m hno hf h8 hc => vc_X4_couple_84 ht (ih m hf h8 (fun z z0 z1 h1 h2 => by
        by_cases hz : z = s
        · subst hz; exact absurd ⟨h1, h2⟩ hno
        · exact hc z z0 (by omega) h1 h2))
      have hb := b_sub (s := s) (g := oddV (tv μ t)) (by omega) (by omega) hob.1 hob.2
      have hbl : 0 ≤ band s (bxor (oddV (tv μ t)) (-1)) ∧ band s (bxor (oddV (tv μ t)) (-1)) ≤ s := by
        rw [b_dif (by omega) (by omega) hob.1 (by omega)]
        have := dif_le (s := s.toNat) (g := (oddV (tv μ t)).toNat)
        omega
      have hpc := popc_bd (s := s)
      refine vc_X4_couple_44 ht ⟨rr (by omega), rr (by omega), fun c => absurd c (by omega), fun _ => ⟨rr (by omega), fun c => hsk m (fun q => c (hb.mpr q.1)) hf h8 hc, fun c => ⟨⟨by omega, by omega⟩, ?_⟩⟩⟩
      have hs : subS s (oddV (tv μ t)) := hb.mp (by omega)
      unfold F_J6_bitCount_0f7a4
      rw [b_odd hpc.1 (by omega)]
      refine ⟨rr (by omega), fun c2 => hsk m (fun q => c2 q.2) hf h8 hc, fun c2 => ?_⟩
      have he : popc s % 2 = 0 := by omega
      obtain ⟨f1, f2, f3, f4, f5⟩ := fel s m (by omega) (by omega) hs he hf hc
      rw [f2, f3]
      refine ⟨f1, f4, by omega, vc_X4_couple_84 ht (ih _ (fun z z0 z1 z2 => by rw [ru_ne z1]; exact hf z z0 z1 z2) (by rw [ru_ne (by omega)]; exact h8) (fun z z0 z1 h1 h2 => ?_))⟩
      rw [ru_eq]
      by_cases hz : z = s
      · rw [hz, r1_eq]
      · rw [r1_ne hz]; exact hc z z0 (by omega) h1 h2
    · intro m hf h8 hc
      refine vc_X4_couple_44 ht ⟨rr (by omega), rr (by omega), fun _ => ⟨by omega, vc_X4_couple_100 ht ⟨⟨8, a_200, by omega⟩, vc_X4_couple_108 ht ?_⟩⟩, fun c => absurd (show oddV (tv μ t) < oddV (tv μ t) + 1 by omega) c⟩
      have ev := odd_even ok
      have hso : subS (oddV (tv μ t)) (oddV (tv μ t)) := fun _ _ _ h => h
      have hoc := hc (oddV (tv μ t)) hob.1 (by omega) hso ev
      have hsz : ∀ z : Int, 0 ≤ z → z < 256 → subS z (oddV (tv μ t)) → z ≤ oddV (tv μ t) := fun z z0 z1 hz => by
        have hb := (b_sub z0 z1 hob.1 hob.2).mpr hz
        rw [b_dif z0 (by omega) hob.1 (by omega)] at hb
        have h1 : dif z.toNat (oddV (tv μ t)).toNat = 0 := by omega
        have h2 : z.toNat = z.toNat &&& (oddV (tv μ t)).toNat := by
          apply Nat.eq_of_testBit_eq
          intro j
          have h3 := dif_tb (s := z.toNat) (g := (oddV (tv μ t)).toNat) (j := j)
          rw [h1, Nat.zero_testBit] at h3
          rw [Nat.testBit_and]
          cases q : z.toNat.testBit j <;> cases q2 : (oddV (tv μ t)).toNat.testBit j <;> rw [q, q2] at h3 <;> simp_all
        have h4 : z.toNat &&& (oddV (tv μ t)).toNat ≤ (oddV (tv μ t)).toNat := Nat.and_le_right
        omega
      unfold M_J7_fill_53178
      refine pt 8 0 (oddV (tv μ t)) _ (by omega) (by omega) hob.1 hob.2 hso ev (by have := popc_bd (s := oddV (tv μ t)); omega) (fun z z0 z1 z2 => by rw [rs_ne z2, ru_ne z0]; exact hf z z0 z1 z2) (fun j hj => by rw [rs_ne (by omega), ru_eq, r1_ne hj, h8]) (by rw [rs_ne (by omega), ru_eq, r1_eq]; exact hoc) (fun z z0 z1 z2 z3 => by rw [rs_ne (by omega), ru_ne (by omega)]; exact hc z z0 (by have := hsz z z0 z1 z2; omega) z2 z3) (fun j j0 j1 => ?_)
      by_cases c : hasB (oddV (tv μ t)) j = true
      · rw [if_pos c, if_pos c]
      · rw [if_neg c, if_neg c, rs_eq]
        exact if_pos ⟨j0, by have : ((LAY (200 : Int).toNat).2 : Int) = 8 := rfl
                             omega⟩
  -- the odd places
  refine vc_X4_couple_0 ht ?_
  have pa : ∀ a : Int, 0 ≤ a → a ≤ μ t 1 → V_X4_couple R 4 [(0, kR 198), (1, kR t), (2, kI (bitsV (fun a => decide (lanesV (tv μ t) a % 2 = 1)) a)), (3, kI a)] μ := by
    refine up_ind (P := fun a => V_X4_couple R 4 [(0, kR 198), (1, kR t), (2, kI (bitsV (fun a => decide (lanesV (tv μ t) a % 2 = 1)) a)), (3, kI a)] μ) ?_ ?_
    · intro a a0 a1 ih
      rw [bitsV_s a0] at ih
      have hl := lanesV_bd ok (a := a)
      refine vc_X4_couple_4 ht ?_
      unfold F_X7_lanesAt
      rw [b_odd hl.1 (by omega), bitsV_or a0 (by omega)]
      refine ⟨rr (by omega), rr (by omega), fun c => absurd c (by omega), fun _ => ⟨⟨⟨ht, ok⟩, by omega⟩, rr (by omega), fun c => ?_, fun c => ?_⟩⟩
      · rw [if_neg (by simp; omega)] at ih; exact ih
      · rw [if_pos (by simp; omega)] at ih; exact ih
    · refine vc_X4_couple_4 ht ⟨rr (by omega), rr (by omega), fun _ => vc_X4_couple_42 ht ?_, fun c => absurd (Int.le_refl _) c⟩
      refine ps 1 (by omega) (by omega) _ (fun z z0 z1 z2 => ru_ne z1) (ru_ne (by omega)) (fun z z0 z1 _ _ => ?_)
      have : z = 0 := by omega
      subst this
      rw [ru_eq, r1_eq]
      rfl
  exact pa 0 (by omega) (by omega)
theorem ct_X4_couple : Ct mX4_couple 4 91 0 0 (nrmS S_X4_couple) := by
  refine ct_vm (own := RX4) (by decide +kernel) rfl ?_ ?_
  · intro as μ Q hS
    unfold S_X4_couple at hS
    split at hS
    · exact Nat.le_of_ble_eq_true rfl
    · exact hS.elim
  · intro as μ R hS
    unfold S_X4_couple at hS
    split at hS
    · exact body_X4_couple hS.1 hS.2
    · exact hS.elim
