/-! trees: minutes of all lanes, the round -/
theorem v7_ed {v : TV} (h : VOk v) (ht : isTr v) {a b : Int} (a0 : 0 ≤ a) (a1 : a < v 0 0) (b0 : 0 ≤ b) (b1 : b < v 0 0) : v 7 (8 * a + b) = (if a ≠ 0 ∧ b = parV v a then lenV v a else 0) + (if b ≠ 0 ∧ a = parV v b then lenV v b else 0) := by
  have ok := h.1
  have hp := ok.1
  have ed := edge_par h ht a0 a1 b0 b1
  have hs := (ok.2.2.2.2.2.2.1 a b a0 (by omega) b0 (by omega)).1
  unfold edV at ed
  by_cases c : a ≠ 0 ∧ b = parV v a
  · rw [if_pos c] at ed ⊢
    have l := len_lane h ht (show 0 < a by omega) a1
    rw [← c.2] at l
    by_cases d : b ≠ 0 ∧ a = parV v b
    · rw [if_pos d] at ed
      split at ed <;> omega
    · rw [if_neg d, l, Int.add_zero]
  · rw [if_neg c] at ed ⊢
    by_cases d : b ≠ 0 ∧ a = parV v b
    · rw [if_pos d]
      have l := len_lane h ht (show 0 < b by omega) b1
      rw [← d.2] at l
      rw [hs, l, Int.zero_add]
    · rw [if_neg d] at ed ⊢
      by_cases z : v 7 (8 * a + b) = 0
      · rw [z]; rfl
      · rw [if_neg z] at ed; omega
theorem rows_all {v : TV} (ok : TVok v) : sm (v 7) 64 = sm (fun a => sm (fun b => v 7 (8 * a + b)) (v 0 0)) (v 0 0) := by
  have hp := ok.1
  have h7 := ok.2.2.2.2.2.2.1
  have z : ∀ a b : Int, 0 ≤ a → a < 8 → v 0 0 ≤ b → b < 8 → v 7 (8 * a + b) = 0 := fun a b a0 a1 b0 b1 => by
    have q := h7 a b a0 a1 (by omega) b1
    rw [q.1]
    exact (h7 b a (by omega) b1 a0 a1).2.2 b0
  have := sm_rows (g := v 7) 8 (by omega)
  rw [show (8 : Int) * 8 = 64 from rfl] at this
  rw [this, sm_tail (n := v 0 0) (by omega) (by omega) (fun a a0 a1 => ?_)]
  · exact sm_congr fun a a0 a1 => sm_tail (by omega) (by omega) fun b b0 b1 => z a b a0 (by omega) b0 b1
  · have : sm (fun b => v 7 (8 * a + b)) 8 = sm (fun _ => 0) 8 := sm_congr fun b b0 b1 => (h7 a b (by omega) a1 b0 b1).2.2 a0
    rw [this, sm_zero (by omega)]
/-- each place but the start lies in one branch at the start -/
theorem root_one {v : TV} (ok : TVok v) (hj : joined v) : ∀ (k : Nat) (c : Int), 0 < c → c < v 0 0 → cnt (fun b => decide (wayV v 0 b < wayV v 0 c)) (v 0 0) ≤ k → sm (fun a => if a ≠ 0 ∧ parV v a = 0 then ind (onN v k a c) else 0) (v 0 0) = 1
  | 0, c, c0, c1, h => by
    have hp := ok.1
    have hi := par_in ok c
    have hl := par_lt ok hj c0 c1
    have h1 := cnt_lt (p := fun _ => false) (q := fun b => decide (wayV v 0 b < wayV v 0 c)) (n := v 0 0) (x := parV v c) (fun _ _ _ q => by simp at q) hi.1 hi.2 rfl (by simp; omega)
    have h2 := cnt_bd (p := fun _ => false) (n := v 0 0) (by omega)
    omega
  | k + 1, c, c0, c1, h => by
    have hp := ok.1
    have hi := par_in ok c
    have hl := par_lt ok hj c0 c1
    by_cases hz : parV v c = 0
    · have e : ∀ a : Int, 0 ≤ a → a < v 0 0 → (if a ≠ 0 ∧ parV v a = 0 then ind (onN v (k + 1) a c) else 0) = if a = c then 1 else 0 := fun a a0 a1 => by
        rw [on_s (show c ≠ 0 by omega), hz, on_0, Bool.or_false]
        by_cases q : a = c
        · rw [if_pos q, q, if_pos ⟨by omega, hz⟩, decide_eq_true rfl]; rfl
        · rw [if_neg q, decide_eq_false (show ¬ c = a from fun w => q w.symm)]
          split <;> rfl
      rw [sm_congr e, sm_one (by omega), if_pos ⟨by omega, c1⟩]
    · have h1 := cnt_lt (p := fun b => decide (wayV v 0 b < wayV v 0 (parV v c))) (q := fun b => decide (wayV v 0 b < wayV v 0 c)) (n := v 0 0) (x := parV v c) (fun i _ _ q => by simp at q ⊢; omega) hi.1 hi.2 (by simp) (by simp; omega)
      have ih := root_one ok hj k (parV v c) (by omega) hi.2 (by omega)
      rw [← ih]
      refine sm_congr fun a a0 a1 => ?_
      by_cases q : a ≠ 0 ∧ parV v a = 0
      · rw [if_pos q, if_pos q, on_s (show c ≠ 0 by omega), decide_eq_false (show ¬ c = a from fun w => hz (by rw [w]; exact q.2)), Bool.false_or]
      · rw [if_neg q, if_neg q]
theorem bs_root {v : TV} (ok : TVok v) (hj : joined v) : bsV v 0 = sm (fun c => if c ≠ 0 then lenV v c else 0) (v 0 0) := by
  have hp := ok.1
  have e : bsV v 0 = sm (fun a => sm (fun c => (if a ≠ 0 ∧ parV v a = 0 then ind (onN v 8 a c) else 0) * lenV v c) (v 0 0)) (v 0 0) := by
    unfold bsV
    refine sm_congr fun a a0 a1 => ?_
    by_cases q : a ≠ 0 ∧ parV v a = 0
    · rw [if_pos q]
      unfold brV
      refine sm_congr fun c c0 c1 => ?_
      rw [if_pos q]
      unfold ind
      by_cases w : onN v 8 a c = true
      · rw [if_pos w, if_pos w, Int.one_mul]
      · rw [if_neg w, if_neg w, Int.zero_mul]
    · rw [if_neg q]
      have : sm (fun c => (if a ≠ 0 ∧ parV v a = 0 then ind (onN v 8 a c) else 0) * lenV v c) (v 0 0) = sm (fun _ => 0) (v 0 0) := sm_congr fun c _ _ => by rw [if_neg q, Int.zero_mul]
      rw [this, sm_zero (by omega)]
  rw [e, sm_swap (f := fun a c => (if a ≠ 0 ∧ parV v a = 0 then ind (onN v 8 a c) else 0) * lenV v c) (by omega) (by omega)]
  refine sm_congr fun c c0 c1 => ?_
  by_cases z : c = 0
  · rw [if_neg (fun q => q z)]
    have : sm (fun a => (if a ≠ 0 ∧ parV v a = 0 then ind (onN v 8 a c) else 0) * lenV v c) (v 0 0) = sm (fun _ => 0) (v 0 0) := sm_congr fun a _ _ => by
      rw [z, on_0]
      show (if a ≠ 0 ∧ parV v a = 0 then (0 : Int) else 0) * lenV v 0 = 0
      split <;> exact Int.zero_mul _
    rw [this, sm_zero (by omega)]
  · rw [if_pos z, sm_mul (f := fun a => if a ≠ 0 ∧ parV v a = 0 then ind (onN v 8 a c) else 0) (by omega), root_one ok hj 8 c (by omega) c1 (by have := cnt7 ok c0 c1; omega), Int.one_mul]
theorem all_bs {v : TV} (h : VOk v) (ht : isTr v) : allMinV v = bsV v 0 := by
  have ok := h.1
  have hj := h.2.1
  have hp := ok.1
  have e1 := all_two ok
  rw [rows_all ok] at e1
  have e2 : ∀ a : Int, 0 ≤ a → a < v 0 0 → sm (fun b => v 7 (8 * a + b)) (v 0 0) = (if a ≠ 0 then lenV v a else 0) + sm (fun b => if b ≠ 0 ∧ a = parV v b then lenV v b else 0) (v 0 0) := fun a a0 a1 => by
    have pi := par_in ok a
    have : sm (fun b => v 7 (8 * a + b)) (v 0 0) = sm (fun b => (if b = parV v a then (if a ≠ 0 then lenV v a else 0) else 0) + (if b ≠ 0 ∧ a = parV v b then lenV v b else 0)) (v 0 0) := sm_congr fun b b0 b1 => by
      rw [v7_ed h ht a0 a1 b0 b1]
      by_cases c : b = parV v a
      · rw [if_pos c]
        by_cases d : a ≠ 0
        · rw [if_pos d, if_pos ⟨d, c⟩]
        · rw [if_neg d, if_neg (fun q => d q.1)]
      · rw [if_neg c, if_neg (fun q => c q.2)]
    rw [this, sm_add (by omega), sm_one (by omega), if_pos pi]
  have e3 : ∀ b : Int, 0 ≤ b → b < v 0 0 → sm (fun a => if b ≠ 0 ∧ a = parV v b then lenV v b else 0) (v 0 0) = if b ≠ 0 then lenV v b else 0 := fun b b0 b1 => by
    have pi := par_in ok b
    have : sm (fun a => if b ≠ 0 ∧ a = parV v b then lenV v b else 0) (v 0 0) = sm (fun a => if a = parV v b then (if b ≠ 0 then lenV v b else 0) else 0) (v 0 0) := sm_congr fun a _ _ => by
      by_cases c : a = parV v b
      · rw [if_pos c]
        by_cases d : b ≠ 0
        · rw [if_pos d, if_pos ⟨d, c⟩]
        · rw [if_neg d, if_neg (fun q => d q.1)]
      · rw [if_neg c, if_neg (fun q => c q.2)]
    rw [this, sm_one (by omega), if_pos pi]
  rw [sm_congr e2, sm_add (by omega), sm_swap (f := fun a b => if b ≠ 0 ∧ a = parV v b then lenV v b else 0) (by omega) (by omega), sm_congr e3, ← bs_root ok hj] at e1
  omega
theorem tw_eq {v : TV} (ok : TVok v) (hj : joined v) : ∀ (k : Nat) (q : Int), 0 ≤ q → q < v 0 0 → cnt (fun b => decide (wayV v 0 b < wayV v 0 q)) (v 0 0) ≤ k → 2 * wayV v 0 q + twN v k q = 2 * (bsV v 0 - bsV v q)
  | 0, q, q0, q1, h => by
    have hp := ok.1
    by_cases z : q = 0
    · have w0 := (way_net ok 0 0 (by omega) (by omega) (by omega) (by omega)).2
      rw [z, w0]
      show 2 * 0 + 0 = _
      omega
    · have hi := par_in ok q
      have hl := par_lt ok hj (show 0 < q by omega) q1
      have h1 := cnt_lt (p := fun _ => false) (q := fun b => decide (wayV v 0 b < wayV v 0 q)) (n := v 0 0) (x := parV v q) (fun _ _ _ q => by simp at q) hi.1 hi.2 rfl (by simp; omega)
      have h2 := cnt_bd (p := fun _ => false) (n := v 0 0) (by omega)
      omega
  | k + 1, q, q0, q1, h => by
    have hp := ok.1
    rw [twN_s]
    by_cases z : q = 0
    · have w0 := (way_net ok 0 0 (by omega) (by omega) (by omega) (by omega)).2
      rw [if_pos z, z, w0]
      omega
    · have hi := par_in ok q
      have hl := par_lt ok hj (show 0 < q by omega) q1
      have h1 := cnt_lt (p := fun b => decide (wayV v 0 b < wayV v 0 (parV v q))) (q := fun b => decide (wayV v 0 b < wayV v 0 q)) (n := v 0 0) (x := parV v q) (fun i _ _ q => by simp at q ⊢; omega) hi.1 hi.2 (by simp) (by simp; omega)
      have ih := tw_eq ok hj k (parV v q) hi.1 hi.2 (by omega)
      have be := br_eq ok hj (show 0 < q by omega) q1
      have le : lenV v q = wayV v 0 q - wayV v 0 (parV v q) := rfl
      rw [if_neg z]
      omega
def P_X11_branches (o a : Int) (μ : Mem) : Prop := o = 201 ∧ MB μ ∧ TrM (vm μ) μ ∧ r32 a
def F_X11_branches (_ a : Int) (μ : Mem) : Int := bsV (vm μ) a
def S_X11_branches : S0t := fun as μ Q => match as with
  | [(2, x0), (0, x1)] => P_X11_branches x0 x1 μ ∧ Q μ (some (kI (F_X11_branches x0 x1 μ)))
  | _ => False
theorem mono_X11_branches : Mono S_X11_branches := by
  intro as μ Q Q' h hS
  unfold S_X11_branches at hS ⊢
  split at hS
  · exact ⟨hS.1, h _ _ hS.2⟩
  · exact hS.elim
def iX11_branches : Inf := (kX11_branches, fTX11, pTX11, cTX11, lTX11, sTX11, [])
theorem ok_X11_branches : infOK iX11_branches mX11_branches RX11 0 0 := ⟨kkX11_branches, fTX11_ok, pTX11_ok _, cTX11_ok, lTX11_ok, sTX11_ok, c_nil⟩
theorem mt_X11_branches : mtOK [] RX11 0 0 := mt_nil
abbrev V_X11_branches (R : Mem → Option AV → Prop) (pc : Nat) (lc : List (Nat × AV)) (μ : Mem) : Prop := VM mX11_branches RX11 0 0 R pc lc [] μ
set_option maxRecDepth 20000 in
theorem vc_X11_branches_0 {R : Mem → Option AV → Prop} {a : Int} {μ : Mem} (H : V_X11_branches R 4 [(0, kR 201), (1, kI a), (2, kI 0), (3, kI 1)] μ) : V_X11_branches R 0 [(0, kR 201), (1, kI a)] μ := by
  refine vm_step2 mt_X11_branches ok_X11_branches [(4, [0, 1, 2, 3])] 1000 ?_
  show V_X11_branches R 4 [(0, kR 201), (1, kI a), (2, kI 0), (3, kI 1)] μ
  exact H
set_option maxRecDepth 20000 in
theorem vc_X11_branches_4 {R : Mem → Option AV → Prop} {a sum b : Int} {μ : Mem} (H : r32 b ∧ r32 (μ 201 13) ∧ (((μ 201 13) ≤ b) → R μ (some (kI sum))) ∧ (¬ ((μ 201 13) ≤ b) → (0 ≤ b ∧ b < 8) ∧ r32 (μ 215 b) ∧ r32 a ∧ ((¬ (μ 215 b) = a) → V_X11_branches R 4 [(0, kR 201), (1, kI a), (2, kI (sum + 0)), (3, kI (b + 1))] μ) ∧ (¬ (¬ (μ 215 b) = a) → (0 ≤ b ∧ b < 8) ∧ V_X11_branches R 4 [(0, kR 201), (1, kI a), (2, kI (sum + (μ 216 b))), (3, kI (b + 1))] μ))) : V_X11_branches R 4 [(0, kR 201), (1, kI a), (2, kI sum), (3, kI b)] μ := by
  refine vm_step2 mt_X11_branches ok_X11_branches [(4, [0, 1, 2, 3])] 1000 ?_
  show isC 201 11 ∧ (r32 b ∧ r32 (μ 201 13)) ∧ (((μ 201 13) ≤ b) → R μ (some (kI sum))) ∧ (¬ ((μ 201 13) ≤ b) → isC 201 11 ∧ inA 215 0 b ∧ (r32 (μ 215 b) ∧ r32 a) ∧ ((¬ (μ 215 b) = a) → V_X11_branches R 4 [(0, kR 201), (1, kI a), (2, kI (sum + 0)), (3, kI (b + 1))] μ) ∧ (¬ (¬ (μ 215 b) = a) → isC 201 11 ∧ inA 216 0 b ∧ V_X11_branches R 4 [(0, kR 201), (1, kI a), (2, kI (sum + (μ 216 b))), (3, kI (b + 1))] μ))
  exact ⟨c_201, ⟨⟨H.1, H.2.1⟩, fun hc2 => (H.2.2.1 hc2), fun hc2 => ⟨c_201, ⟨isArr.in a_215 (H.2.2.2 hc2).1.1 (H.2.2.2 hc2).1.2, ⟨⟨(H.2.2.2 hc2).2.1, (H.2.2.2 hc2).2.2.1⟩, fun hc1 => ((H.2.2.2 hc2).2.2.2.1 hc1), fun hc1 => ⟨c_201, ⟨isArr.in a_216 ((H.2.2.2 hc2).2.2.2.2 hc1).1.1 ((H.2.2.2 hc2).2.2.2.2 hc1).1.2, ((H.2.2.2 hc2).2.2.2.2 hc1).2⟩⟩⟩⟩⟩⟩⟩
theorem body_X11_branches {o a : Int} {μ : Mem} {R : Mem → Option AV → Prop} (h : P_X11_branches o a μ) (hR : R μ (some (kI (F_X11_branches o a μ)))) : V_X11_branches R 0 [(0, kR o), (1, kI a)] μ := by
  obtain ⟨rfl, hb, ht, ra⟩ := h
  have ok := hb.v
  have hp := ok.1
  have hpe := hb.2.1
  have key := up_ind (P := fun b => V_X11_branches R 4 [(0, kR 201), (1, kI a), (2, kI (sm (fun c => if c ≠ 0 ∧ parV (vm μ) c = a then brV (vm μ) c else 0) b)), (3, kI b)] μ) (lo := 1) (hi := vm μ 0 0) ?_ ?_
  · have e : sm (fun c => if c ≠ 0 ∧ parV (vm μ) c = a then brV (vm μ) c else 0) 1 = 0 := by
      have : sm (fun c => if c ≠ 0 ∧ parV (vm μ) c = a then brV (vm μ) c else 0) (0 + 1) = 0 + (if (0 : Int) ≠ 0 ∧ parV (vm μ) 0 = a then brV (vm μ) 0 else 0) := sm_s (Int.le_refl 0)
      rw [if_neg (fun q => q.1 rfl)] at this
      exact this
    have := key 1 (by omega) (by omega)
    rw [e] at this
    exact vc_X11_branches_0 this
  · intro b b0 b1 ih
    have hb' := ht.2 b (by omega) b1
    have pi := par_in ok b
    rw [sm_s (by omega)] at ih
    refine vc_X11_branches_4 ?_
    rw [hpe, hb'.1, hb'.2]
    refine ⟨rr (by omega), rr (by omega), fun c => absurd c (by omega), fun _ => ⟨by omega, rr (by omega), ra, fun c => ?_, fun c => ⟨by omega, ?_⟩⟩⟩
    · rw [if_neg (fun q => c q.2)] at ih; exact ih
    · rw [if_pos ⟨by omega, Classical.not_not.mp c⟩] at ih; exact ih
  · refine vc_X11_branches_4 ?_
    rw [hpe]
    exact ⟨rr (by omega), rr (by omega), fun _ => hR, fun c => absurd (Int.le_refl _) c⟩
theorem ct_X11_branches : Ct mX11_branches 0 0 0 0 (nrmS S_X11_branches) := by
  refine ct_vm (own := RX11) (by decide +kernel) rfl ?_ ?_
  · intro as μ Q hS
    unfold S_X11_branches at hS
    split at hS
    · exact Nat.le_of_ble_eq_true rfl
    · exact hS.elim
  · intro as μ R hS
    unfold S_X11_branches at hS
    split at hS
    · exact body_X11_branches hS.1 hS.2
    · exact hS.elim
def P_X11_density (o n a k : Int) (μ : Mem) : Prop := o = 201 ∧ SOk (stM μ) ∧ r32 n ∧ r32 a ∧ r32 k
def Q_X11_density (_ n a k : Int) (μ μ' : Mem) (r : Int) : Prop := AskM μ μ' ∧ r = onT (stM μ).1 n (-1) (densityT a k)
def S_X11_density : S0t := fun as μ Q => match as with
  | [(2, x0), (0, x1), (0, x2), (0, x3)] => P_X11_density x0 x1 x2 x3 μ ∧ ∀ (μ' : Mem) (r : Int), Q_X11_density x0 x1 x2 x3 μ μ' r → Q μ' (some (kL r))
  | _ => False
theorem mono_X11_density : Mono S_X11_density := by
  intro as μ Q Q' h hS
  unfold S_X11_density at hS ⊢
  split at hS
  · exact ⟨hS.1, fun μ' r q => h _ _ (hS.2 _ _ q)⟩
  · exact hS.elim
def iX11_density : Inf := (kX11_density, fTX11, pTX11, cTX11, lTX11, sTX11, [(329, 0, 1, 11, S_X11_isTree), (231, 0, 1, 11, S_X11_isPlace), (162, 1, 3, 0, S_X11_isIn), (334, 0, 0, 11, S_X11_grows), (337, 0, 1, 11, S_X11_branches), (340, 1, 2, 0, S_X11_divisor)])
theorem ok_X11_density : infOK iX11_density mX11_density RX11 3 64 := ⟨kkX11_density, fTX11_ok, pTX11_ok _, cTX11_ok, lTX11_ok, sTX11_ok, c_cons ⟨mX11_isTree, 2, 43, ct_X11_isTree, mmX11_isTree, vvX11_isTree, lkX11_329, ⟨by decide, by decide⟩, ⟨_, _, rfl⟩, by decide, mono_X11_isTree⟩ (c_cons ⟨mX11_isPlace, 1, 22, ct_X11_isPlace, mmX11_isPlace, vvX11_isPlace, lkX11_231, ⟨by decide, by decide⟩, ⟨_, _, rfl⟩, by decide, mono_X11_isPlace⟩ (c_cons ⟨mX11_isIn, 0, 0, ct_X11_isIn, mmX11_isIn, stX11_isIn, lkX11_162, ⟨by decide, by decide⟩, mono_X11_isIn⟩ (c_cons ⟨mX11_grows, 1, 21, ct_X11_grows, mmX11_grows, vvX11_grows, lkX11_334, ⟨by decide, by decide⟩, ⟨_, _, rfl⟩, by decide, mono_X11_grows⟩ (c_cons ⟨mX11_branches, 0, 0, ct_X11_branches, mmX11_branches, vvX11_branches, lkX11_337, ⟨by decide, by decide⟩, ⟨_, _, rfl⟩, by decide, mono_X11_branches⟩ (c_cons ⟨mX11_divisor, 0, 0, ct_X11_divisor, mmX11_divisor, stX11_divisor, lkX11_340, ⟨by decide, by decide⟩, mono_X11_divisor⟩ (c_nil))))))⟩
theorem mt_X11_density : mtOK [] RX11 3 64 := mt_nil
abbrev V_X11_density (R : Mem → Option AV → Prop) (pc : Nat) (lc : List (Nat × AV)) (μ : Mem) : Prop := VM mX11_density RX11 3 64 R pc lc [] μ
set_option maxRecDepth 20000 in
theorem vc_X11_density_0 {R : Mem → Option AV → Prop} {n a k : Int} {μ : Mem} (H : P_X11_isTree 201 n μ ∧ (∀ (μ1 : Mem) (rv2 : Int), Q_X11_isTree 201 n μ μ1 rv2 → r32 rv2 ∧ ((rv2 = 0) → R μ1 (some (kL (-1)))) ∧ (¬ (rv2 = 0) → P_X11_isPlace 201 a μ1 ∧ r32 (F_X11_isPlace 201 a μ1) ∧ (((F_X11_isPlace 201 a μ1) = 0) → R μ1 (some (kL (-1)))) ∧ (¬ ((F_X11_isPlace 201 a μ1) = 0) → P_X11_isIn k 0 1 μ1 ∧ r32 (F_X11_isIn k 0 1 μ1) ∧ ((¬ (F_X11_isIn k 0 1 μ1) = 0) → P_X11_grows 201 μ1 ∧ (∀ (μ4 : Mem), Q_X11_grows 201 μ1 μ4 → r32 a ∧ ((a = 0) → r32 k ∧ R μ4 (some (kL k))) ∧ (¬ (a = 0) → P_X11_branches 201 a μ4 ∧ r32 (F_X11_branches 201 a μ4) ∧ (((F_X11_branches 201 a μ4) ≤ 0) → V_X11_density R 57 [(0, kR 201), (3, kI k), (4, kL 1), (6, kL 1), (8, kI a)] μ4) ∧ (¬ ((F_X11_branches 201 a μ4) ≤ 0) → r32 k ∧ R μ4 (some (kL k)))))) ∧ (¬ (¬ (F_X11_isIn k 0 1 μ1) = 0) → R μ1 (some (kL (-1)))))))) : V_X11_density R 0 [(0, kR 201), (1, kI n), (2, kI a), (3, kI k)] μ := by
  refine vm_step2 mt_X11_density ok_X11_density [(57, [0, 3, 4, 6, 8])] 1000 ?_
  show isC 201 11 ∧ P_X11_isTree 201 n μ ∧ (∀ (μ1 : Mem) (rv2 : Int), Q_X11_isTree 201 n μ μ1 rv2 → r32 rv2 ∧ ((rv2 = 0) → R μ1 (some (kL (-1)))) ∧ (¬ (rv2 = 0) → isC 201 11 ∧ P_X11_isPlace 201 a μ1 ∧ r32 (F_X11_isPlace 201 a μ1) ∧ (((F_X11_isPlace 201 a μ1) = 0) → R μ1 (some (kL (-1)))) ∧ (¬ ((F_X11_isPlace 201 a μ1) = 0) → P_X11_isIn k 0 1 μ1 ∧ r32 (F_X11_isIn k 0 1 μ1) ∧ ((¬ (F_X11_isIn k 0 1 μ1) = 0) → isC 201 11 ∧ P_X11_grows 201 μ1 ∧ (∀ (μ4 : Mem), Q_X11_grows 201 μ1 μ4 → r32 a ∧ ((a = 0) → r32 k ∧ R μ4 (some (kL k))) ∧ (¬ (a = 0) → isC 201 11 ∧ P_X11_branches 201 a μ4 ∧ r32 (F_X11_branches 201 a μ4) ∧ (((F_X11_branches 201 a μ4) ≤ 0) → V_X11_density R 57 [(0, kR 201), (3, kI k), (4, kL 1), (6, kL 1), (8, kI a)] μ4) ∧ (¬ ((F_X11_branches 201 a μ4) ≤ 0) → r32 k ∧ R μ4 (some (kL k)))))) ∧ (¬ (¬ (F_X11_isIn k 0 1 μ1) = 0) → R μ1 (some (kL (-1)))))))
  exact ⟨c_201, H.1, fun μ1 rv2 hq3 => ⟨(H.2 μ1 rv2 hq3).1, fun hc11 => ((H.2 μ1 rv2 hq3).2.1 hc11), fun hc11 => ⟨c_201, ((H.2 μ1 rv2 hq3).2.2 hc11).1, ⟨((H.2 μ1 rv2 hq3).2.2 hc11).2.1, fun hc10 => (((H.2 μ1 rv2 hq3).2.2 hc11).2.2.1 hc10), fun hc10 => ⟨(((H.2 μ1 rv2 hq3).2.2 hc11).2.2.2 hc10).1, ⟨(((H.2 μ1 rv2 hq3).2.2 hc11).2.2.2 hc10).2.1, fun hc9 => ⟨c_201, ((((H.2 μ1 rv2 hq3).2.2 hc11).2.2.2 hc10).2.2.1 hc9).1, fun μ4 hq6 => ⟨(((((H.2 μ1 rv2 hq3).2.2 hc11).2.2.2 hc10).2.2.1 hc9).2 μ4 hq6).1, fun hc8 => ⟨((((((H.2 μ1 rv2 hq3).2.2 hc11).2.2.2 hc10).2.2.1 hc9).2 μ4 hq6).2.1 hc8).1, ((((((H.2 μ1 rv2 hq3).2.2 hc11).2.2.2 hc10).2.2.1 hc9).2 μ4 hq6).2.1 hc8).2⟩, fun hc8 => ⟨c_201, ((((((H.2 μ1 rv2 hq3).2.2 hc11).2.2.2 hc10).2.2.1 hc9).2 μ4 hq6).2.2 hc8).1, ⟨((((((H.2 μ1 rv2 hq3).2.2 hc11).2.2.2 hc10).2.2.1 hc9).2 μ4 hq6).2.2 hc8).2.1, fun hc7 => (((((((H.2 μ1 rv2 hq3).2.2 hc11).2.2.2 hc10).2.2.1 hc9).2 μ4 hq6).2.2 hc8).2.2.1 hc7), fun hc7 => ⟨(((((((H.2 μ1 rv2 hq3).2.2 hc11).2.2.2 hc10).2.2.1 hc9).2 μ4 hq6).2.2 hc8).2.2.2 hc7).1, (((((((H.2 μ1 rv2 hq3).2.2 hc11).2.2.2 hc10).2.2.1 hc9).2 μ4 hq6).2.2 hc8).2.2.2 hc7).2⟩⟩⟩⟩⟩, fun hc9 => ((((H.2 μ1 rv2 hq3).2.2 hc11).2.2.2 hc10).2.2.2 hc9)⟩⟩⟩⟩⟩⟩
set_option maxRecDepth 20000 in
theorem vc_X11_density_57 {R : Mem → Option AV → Prop} {k up dn q : Int} {μ : Mem} (H : r32 q ∧ ((q ≤ 0) → r32 k ∧ ((¬ k = 0) → R μ (some (kL dn))) ∧ (¬ (¬ k = 0) → R μ (some (kL up)))) ∧ (¬ (q ≤ 0) → (0 ≤ q ∧ q < 8) ∧ r32 (μ 216 q) ∧ (0 ≤ q ∧ q < 8) ∧ P_X11_branches 201 (μ 215 q) μ ∧ r32 (F_X11_branches 201 (μ 215 q) μ) ∧ P_X11_divisor (up * (μ 216 q)) (dn * (F_X11_branches 201 (μ 215 q) μ)) μ ∧ (r64 (up * (μ 216 q)) ∧ r64 (F_X11_divisor (up * (μ 216 q)) (dn * (F_X11_branches 201 (μ 215 q) μ)) μ) ∧ (F_X11_divisor (up * (μ 216 q)) (dn * (F_X11_branches 201 (μ 215 q) μ)) μ) ≠ 0) ∧ (r64 (dn * (F_X11_branches 201 (μ 215 q) μ)) ∧ r64 (F_X11_divisor (up * (μ 216 q)) (dn * (F_X11_branches 201 (μ 215 q) μ)) μ) ∧ (F_X11_divisor (up * (μ 216 q)) (dn * (F_X11_branches 201 (μ 215 q) μ)) μ) ≠ 0) ∧ (0 ≤ q ∧ q < 8) ∧ V_X11_density R 57 [(0, kR 201), (3, kI k), (4, kL (Int.tdiv (up * (μ 216 q)) (F_X11_divisor (up * (μ 216 q)) (dn * (F_X11_branches 201 (μ 215 q) μ)) μ))), (6, kL (Int.tdiv (dn * (F_X11_branches 201 (μ 215 q) μ)) (F_X11_divisor (up * (μ 216 q)) (dn * (F_X11_branches 201 (μ 215 q) μ)) μ))), (8, kI (μ 215 q))] μ)) : V_X11_density R 57 [(0, kR 201), (3, kI k), (4, kL up), (6, kL dn), (8, kI q)] μ := by
  refine vm_step2 mt_X11_density ok_X11_density [(57, [0, 3, 4, 6, 8])] 1000 ?_
  show r32 q ∧ ((q ≤ 0) → r32 k ∧ ((¬ k = 0) → R μ (some (kL dn))) ∧ (¬ (¬ k = 0) → R μ (some (kL up)))) ∧ (¬ (q ≤ 0) → isC 201 11 ∧ inA 216 0 q ∧ r32 (μ 216 q) ∧ isC 201 11 ∧ inA 215 0 q ∧ isC 201 11 ∧ P_X11_branches 201 (μ 215 q) μ ∧ r32 (F_X11_branches 201 (μ 215 q) μ) ∧ P_X11_divisor (up * (μ 216 q)) (dn * (F_X11_branches 201 (μ 215 q) μ)) μ ∧ (r64 (up * (μ 216 q)) ∧ r64 (F_X11_divisor (up * (μ 216 q)) (dn * (F_X11_branches 201 (μ 215 q) μ)) μ) ∧ (F_X11_divisor (up * (μ 216 q)) (dn * (F_X11_branches 201 (μ 215 q) μ)) μ) ≠ 0) ∧ (r64 (dn * (F_X11_branches 201 (μ 215 q) μ)) ∧ r64 (F_X11_divisor (up * (μ 216 q)) (dn * (F_X11_branches 201 (μ 215 q) μ)) μ) ∧ (F_X11_divisor (up * (μ 216 q)) (dn * (F_X11_branches 201 (μ 215 q) μ)) μ) ≠ 0) ∧ isC 201 11 ∧ inA 215 0 q ∧ V_X11_density R 57 [(0, kR 201), (3, kI k), (4, kL (Int.tdiv (up * (μ 216 q)) (F_X11_divisor (up * (μ 216 q)) (dn * (F_X11_branches 201 (μ 215 q) μ)) μ))), (6, kL (Int.tdiv (dn * (F_X11_branches 201 (μ 215 q) μ)) (F_X11_divisor (up * (μ 216 q)) (dn * (F_X11_branches 201 (μ 215 q) μ)) μ))), (8, kI (μ 215 q))] μ)
  exact ⟨H.1, fun hc13 => ⟨(H.2.1 hc13).1, fun hc12 => ((H.2.1 hc13).2.1 hc12), fun hc12 => ((H.2.1 hc13).2.2 hc12)⟩, fun hc13 => ⟨c_201, ⟨isArr.in a_216 (H.2.2 hc13).1.1 (H.2.2 hc13).1.2, ⟨(H.2.2 hc13).2.1, ⟨c_201, ⟨isArr.in a_215 (H.2.2 hc13).2.2.1.1 (H.2.2 hc13).2.2.1.2, ⟨c_201, (H.2.2 hc13).2.2.2.1, ⟨(H.2.2 hc13).2.2.2.2.1, ⟨(H.2.2 hc13).2.2.2.2.2.1, ⟨(H.2.2 hc13).2.2.2.2.2.2.1, ⟨(H.2.2 hc13).2.2.2.2.2.2.2.1, ⟨c_201, ⟨isArr.in a_215 (H.2.2 hc13).2.2.2.2.2.2.2.2.1.1 (H.2.2 hc13).2.2.2.2.2.2.2.2.1.2, (H.2.2 hc13).2.2.2.2.2.2.2.2.2⟩⟩⟩⟩⟩⟩⟩⟩⟩⟩⟩⟩⟩
theorem body_X11_density {o n a k : Int} {μ : Mem} {R : Mem → Option AV → Prop} (h : P_X11_density o n a k μ) (hR : ∀ (μ' : Mem) (r : Int), Q_X11_density o n a k μ μ' r → R μ' (some (kL r))) : V_X11_density R 0 [(0, kR o), (1, kI n), (2, kI a), (3, kI k)] μ := by
  obtain ⟨rfl, hs, r_n, r_a, r_k⟩ := h
  refine vc_X11_density_0 ⟨⟨rfl, hs, r_n⟩, fun m rv q => ?_⟩
  obtain ⟨q1, q2, q3, q4⟩ := q
  have ask : AskM μ m := fun z hz => q1 z (by omega)
  by_cases c : (0 ≤ n ∧ n < μ 202 0) ∧ (stM μ).1.2.2 n 1 0 = (stM μ).1.2.2 n 0 0 - 1
  · have c2 := c.2
    obtain ⟨rfl, hb, hv, h12⟩ := q4 c
    have ok := hb.v
    have vok : VOk (vm m) := hb.2.2
    have hj := vok.2.1
    have hp := ok.1
    have hpe := hb.2.1
    rw [← hv] at c2
    have ht : isTr (vm m) := c2
    have fin : ∀ (m' : Mem) (x : Int), AskM m m' → x = (densityT a k) (vm m) → R m' (some (kL x)) := fun m' x ha hx => hR m' x ⟨ask.trans ha, by rw [hx, onM_yes c.1, ← hv]⟩
    have a0 := AskM_0 m
    unfold densityT at fin
    refine ⟨rr (by omega), fun q => absurd q (by omega), fun _ => ?_⟩
    have ir := isPlace_r (o := 201) (a := a) (μ := m)
    have ik := isIn_r (x := k) (lo := 0) (hi := 1) (μ := m)
    refine ⟨⟨rfl, hb, r_a⟩, rr (by omega), fun d => fin m _ a0 ?_, fun d => ⟨⟨r_k, rr (by omega), rr (by omega)⟩, rr (by omega), fun e => ?_, fun e => fin m _ a0 ?_⟩⟩
    · rw [if_neg (fun q => isPlace_1.mpr q.1.2 d)]
    · have da := isPlace_1.mp d
      have dk := isIn_1.mp e
      rw [if_pos ⟨⟨ht, da⟩, dk⟩] at fin
      refine ⟨⟨rfl, hb, ht⟩, fun m4 q => ?_⟩
      obtain ⟨tr, qz⟩ := q
      obtain ⟨mb, ev⟩ := MB_frame hb (qz 202 (by omega) (by omega) (by omega)) (by rw [qz 201 (by omega) (by omega) (by omega)]) (by rw [qz 201 (by omega) (by omega) (by omega)])
      have ask4 : AskM m m4 := fun z hz => qz z (by omega) (by omega) (by omega)
      have tr4 : TrM (vm m4) m4 := by rw [ev]; exact tr
      have ef : ∀ q, F_X11_branches 201 q m4 = bsV (vm m) q := fun q => by unfold F_X11_branches; rw [ev]
      obtain ⟨v, hv'⟩ : ∃ v : TV, v = vm m := ⟨_, rfl⟩
      rw [← hv'] at ok vok hj hp ht fin da tr ef
      have nol : weV v a = (0, 1) → R m4 (some (kL k)) := fun w => fin m4 _ ask4 (by
        rw [w]
        by_cases k0 : k = 0
        · rw [if_pos k0, k0]
        · rw [if_neg k0]
          show k = 1
          omega)
      refine ⟨r_a, fun z => ⟨r_k, nol (by unfold weV; rw [if_neg (fun q => q.1 z)])⟩, fun z => ⟨⟨rfl, mb, tr4, r_a⟩, ?_⟩⟩
      rw [ef]
      have bsb := bs_bd ok hj da.1 da.2
      have lf := leaf_bs vok ht (show 0 < a by omega) da.2
      refine ⟨rr (by omega), fun lb => ?_, fun lb => ⟨r_k, nol (by unfold weV; rw [if_neg (fun q => lb (lf.mp q.2))])⟩⟩
      have ew : weV v a = weN v 8 a 1 1 := by unfold weV; rw [if_pos ⟨z, lf.mpr lb⟩]
      rw [ew] at fin
      have key : ∀ (f : Nat) (i q A B : Int), i + f = 8 → 0 ≤ i → (0 ≤ q ∧ q < v 0 0) → (1 ≤ A ∧ A ≤ pw 160 i) → 1 ≤ B → (q ≠ 0 → B ≤ pw 160 i) → cnt (fun b => decide (wayV v 0 b < wayV v 0 q)) (v 0 0) ≤ f → weN v f q A B = weN v 8 a 1 1 → V_X11_density R 57 [(0, kR 201), (3, kI k), (4, kL A), (6, kL B), (8, kI q)] m4 := by
        have last : ∀ (A B : Int), (A, B) = weN v 8 a 1 1 → V_X11_density R 57 [(0, kR 201), (3, kI k), (4, kL A), (6, kL B), (8, kI 0)] m4 := fun A B w => by
          refine vc_X11_density_57 ⟨rr (by omega), fun _ => ⟨r_k, fun k0 => fin m4 _ ask4 ?_, fun k0 => fin m4 _ ask4 ?_⟩, fun c => absurd (Int.le_refl 0) c⟩
          · rw [if_neg k0, ← w]
          · rw [if_pos (Classical.not_not.mp k0), ← w]
        intro f
        induction f with
        | zero =>
          intro i q A B hif i0 hq hA hB1 hB hc hw
          have q0 : q = 0 := Classical.byContradiction fun h => by
            have hi := par_in ok q
            have hl := par_lt ok hj (show 0 < q by omega) hq.2
            have h1 := cnt_lt (p := fun _ => false) (q := fun b => decide (wayV v 0 b < wayV v 0 q)) (n := v 0 0) (x := parV v q) (fun _ _ _ q => by simp at q) hi.1 hi.2 rfl (by simp; omega)
            have h2 := cnt_bd (p := fun _ => false) (n := v 0 0) (by omega)
            omega
          subst q0
          exact last A B hw
        | succ f ih =>
          intro i q A B hif i0 hq hA hB1 hB hc hw
          by_cases q0 : q = 0
          · subst q0
            rw [weN_s, if_pos rfl] at hw
            exact last A B hw
          · have hqp := par_in ok q
            have hl := par_lt ok hj (show 0 < q by omega) hq.2
            have hcl := cnt_lt (p := fun b => decide (wayV v 0 b < wayV v 0 (parV v q))) (q := fun b => decide (wayV v 0 b < wayV v 0 q)) (n := v 0 0) (x := parV v q) (fun i _ _ q => by simp at q ⊢; omega) hqp.1 hqp.2 (by simp) (by simp; omega)
            have hpw := pw160 i0 (show i ≤ 7 by omega)
            have hps : pw 160 (i + 1) = pw 160 i * 160 := pw_s i0
            have b1 := br_pos ok hj (show 0 < q by omega) hq.2
            have b2 := br_bd ok hj (p := q)
            have s1 := bs_pos ok hj (show 0 < q by omega) hq.2
            have s2 := bs_bd ok hj hqp.1 hqp.2
            have eA := mul_bd (A := pw 160 i) (B := 160) (a := A) (b := brV v q) (by omega) hA.2 (by omega) b2.2
            have pA : 1 ≤ A * brV v q := Int.mul_pos (by omega) (by omega)
            have eB := mul_bd (A := pw 160 i) (B := 1280) (a := B) (b := bsV v (parV v q)) (by omega) (hB q0) (by omega) s2.2.1
            have pB : 1 ≤ B * bsV v (parV v q) := Int.mul_pos (by omega) (by omega)
            have eB2 : parV v q ≠ 0 → B * bsV v (parV v q) ≤ pw 160 i * 160 := fun h => (mul_bd (A := pw 160 i) (B := 160) (a := B) (b := bsV v (parV v q)) (by omega) (hB q0) (by omega) (s2.2.2 h)).2
            have hg := gcd_div pA pB
            have tq := tr.2 q (by omega) hq.2
            rw [weN_s, if_neg q0] at hw
            have t1 : Int.tdiv (A * brV v q) (gcdI (A * brV v q) (B * bsV v (parV v q))) = A * brV v q / gcdI (A * brV v q) (B * bsV v (parV v q)) := Int.tdiv_eq_ediv_of_nonneg (by omega)
            have t2 : Int.tdiv (B * bsV v (parV v q)) (gcdI (A * brV v q) (B * bsV v (parV v q))) = B * bsV v (parV v q) / gcdI (A * brV v q) (B * bsV v (parV v q)) := Int.tdiv_eq_ediv_of_nonneg (by omega)
            refine vc_X11_density_57 ?_
            unfold F_X11_divisor
            rw [tq.1, tq.2, ef, t1, t2]
            refine ⟨rr (by omega), fun c => absurd c (by omega), fun _ => ⟨by omega, rr (by omega), by omega, ⟨rfl, mb, tr4, rr (by omega)⟩, rr (by omega), ⟨⟨by omega, by omega⟩, by omega, by omega⟩, ⟨rl (by omega), rl (by omega), by omega⟩, ⟨rl (by omega), rl (by omega), by omega⟩, by omega, ?_⟩⟩
            exact ih (i + 1) (parV v q) _ _ (by omega) (by omega) hqp (by omega) (by omega) (fun h => by have := eB2 h; omega) (by omega) hw
      exact key 8 0 a 1 1 (by omega) (by omega) da ⟨by omega, by show (1 : Int) ≤ 1; omega⟩ (by omega) (fun _ => by show (1 : Int) ≤ 1; omega) (by have := cnt7 ok da.1 da.2; omega) rfl
    · rw [if_neg (fun q => e (isIn_1.mpr q.2))]
  · have e := q3 c
    subst e
    refine ⟨rr (by omega), fun _ => hR m _ ⟨ask, ?_⟩, fun q => absurd rfl q⟩
    by_cases c1 : 0 ≤ n ∧ n < μ 202 0
    · rw [onM_yes c1]
      unfold densityT
      rw [if_neg (fun q => c ⟨c1, q.1.1⟩)]
    · exact (onM_no c1).symm
theorem ct_X11_density : Ct mX11_density 3 64 0 0 (nrmS S_X11_density) := by
  refine ct_vm (own := RX11) (by decide +kernel) rfl ?_ ?_
  · intro as μ Q hS
    unfold S_X11_density at hS
    split at hS
    · exact Nat.le_of_ble_eq_true rfl
    · exact hS.elim
  · intro as μ R hS
    unfold S_X11_density at hS
    split at hS
    · exact body_X11_density hS.1 hS.2
    · exact hS.elim
def P_X11_below (o a : Int) (μ : Mem) : Prop := o = 201 ∧ MB μ ∧ (∀ b : Int, 0 < b → b < vm μ 0 0 → r32 (μ 215 b) ∧ r32 (μ 218 b)) ∧ r32 a
def F_X11_below (_ a : Int) (μ : Mem) : Int := frst (fun b => decide (b ≠ 0 ∧ μ 215 b = a ∧ μ 218 b < 0)) (vm μ 0 0)
def S_X11_below : S0t := fun as μ Q => match as with
  | [(2, x0), (0, x1)] => P_X11_below x0 x1 μ ∧ Q μ (some (kI (F_X11_below x0 x1 μ)))
  | _ => False
theorem mono_X11_below : Mono S_X11_below := by
  intro as μ Q Q' h hS
  unfold S_X11_below at hS ⊢
  split at hS
  · exact ⟨hS.1, h _ _ hS.2⟩
  · exact hS.elim
def iX11_below : Inf := (kX11_below, fTX11, pTX11, cTX11, lTX11, sTX11, [])
theorem ok_X11_below : infOK iX11_below mX11_below RX11 0 0 := ⟨kkX11_below, fTX11_ok, pTX11_ok _, cTX11_ok, lTX11_ok, sTX11_ok, c_nil⟩
theorem mt_X11_below : mtOK [] RX11 0 0 := mt_nil
abbrev V_X11_below (R : Mem → Option AV → Prop) (pc : Nat) (lc : List (Nat × AV)) (μ : Mem) : Prop := VM mX11_below RX11 0 0 R pc lc [] μ
set_option maxRecDepth 20000 in
theorem vc_X11_below_0 {R : Mem → Option AV → Prop} {a : Int} {μ : Mem} (H : V_X11_below R 2 [(0, kR 201), (1, kI a), (2, kI 1)] μ) : V_X11_below R 0 [(0, kR 201), (1, kI a)] μ := by
  refine vm_step2 mt_X11_below ok_X11_below [(2, [0, 1, 2])] 1000 ?_
  show V_X11_below R 2 [(0, kR 201), (1, kI a), (2, kI 1)] μ
  exact H
set_option maxRecDepth 20000 in
theorem vc_X11_below_2 {R : Mem → Option AV → Prop} {a b : Int} {μ : Mem} (H : r32 b ∧ r32 (μ 201 13) ∧ (((μ 201 13) ≤ b) → R μ (some (kI (-1)))) ∧ (¬ ((μ 201 13) ≤ b) → (0 ≤ b ∧ b < 8) ∧ r32 (μ 215 b) ∧ r32 a ∧ ((¬ (μ 215 b) = a) → V_X11_below R 2 [(0, kR 201), (1, kI a), (2, kI (b + 1))] μ) ∧ (¬ (¬ (μ 215 b) = a) → (0 ≤ b ∧ b < 8) ∧ r32 (μ 218 b) ∧ ((0 ≤ (μ 218 b)) → V_X11_below R 2 [(0, kR 201), (1, kI a), (2, kI (b + 1))] μ) ∧ (¬ (0 ≤ (μ 218 b)) → R μ (some (kI b)))))) : V_X11_below R 2 [(0, kR 201), (1, kI a), (2, kI b)] μ := by
  refine vm_step2 mt_X11_below ok_X11_below [(2, [0, 1, 2])] 1000 ?_
  show isC 201 11 ∧ (r32 b ∧ r32 (μ 201 13)) ∧ (((μ 201 13) ≤ b) → R μ (some (kI (-1)))) ∧ (¬ ((μ 201 13) ≤ b) → isC 201 11 ∧ inA 215 0 b ∧ (r32 (μ 215 b) ∧ r32 a) ∧ ((¬ (μ 215 b) = a) → V_X11_below R 2 [(0, kR 201), (1, kI a), (2, kI (b + 1))] μ) ∧ (¬ (¬ (μ 215 b) = a) → isC 201 11 ∧ inA 218 0 b ∧ r32 (μ 218 b) ∧ ((0 ≤ (μ 218 b)) → V_X11_below R 2 [(0, kR 201), (1, kI a), (2, kI (b + 1))] μ) ∧ (¬ (0 ≤ (μ 218 b)) → R μ (some (kI b)))))
  exact ⟨c_201, ⟨⟨H.1, H.2.1⟩, fun hc3 => (H.2.2.1 hc3), fun hc3 => ⟨c_201, ⟨isArr.in a_215 (H.2.2.2 hc3).1.1 (H.2.2.2 hc3).1.2, ⟨⟨(H.2.2.2 hc3).2.1, (H.2.2.2 hc3).2.2.1⟩, fun hc2 => ((H.2.2.2 hc3).2.2.2.1 hc2), fun hc2 => ⟨c_201, ⟨isArr.in a_218 ((H.2.2.2 hc3).2.2.2.2 hc2).1.1 ((H.2.2.2 hc3).2.2.2.2 hc2).1.2, ⟨((H.2.2.2 hc3).2.2.2.2 hc2).2.1, fun hc1 => (((H.2.2.2 hc3).2.2.2.2 hc2).2.2.1 hc1), fun hc1 => (((H.2.2.2 hc3).2.2.2.2 hc2).2.2.2 hc1)⟩⟩⟩⟩⟩⟩⟩⟩
theorem body_X11_below {o a : Int} {μ : Mem} {R : Mem → Option AV → Prop} (h : P_X11_below o a μ) (hR : R μ (some (kI (F_X11_below o a μ)))) : V_X11_below R 0 [(0, kR o), (1, kI a)] μ := by
  obtain ⟨rfl, hb, hr, ra⟩ := h
  have ok := hb.v
  have hp := ok.1
  have hpe := hb.2.1
  unfold F_X11_below at hR
  have key := up_ind (P := fun b => (∀ c : Int, 0 ≤ c → c < b → ¬ (c ≠ 0 ∧ μ 215 c = a ∧ μ 218 c < 0)) → V_X11_below R 2 [(0, kR 201), (1, kI a), (2, kI b)] μ) (lo := 1) (hi := vm μ 0 0) ?_ ?_
  · exact vc_X11_below_0 (key 1 (by omega) (by omega) (fun c c0 c1 q => q.1 (by omega)))
  · intro b b0 b1 ih hno
    have r := hr b (by omega) b1
    have nx : ¬ (b ≠ 0 ∧ μ 215 b = a ∧ μ 218 b < 0) → V_X11_below R 2 [(0, kR 201), (1, kI a), (2, kI (b + 1))] μ := fun q => ih (fun c c0 c1 => by
      by_cases e : c = b
      · rw [e]; exact q
      · exact hno c c0 (by omega))
    refine vc_X11_below_2 ?_
    rw [hpe]
    refine ⟨rr (by omega), rr (by omega), fun c => absurd c (by omega), fun _ => ⟨by omega, r.1, ra, fun c => nx (fun q => c q.2.1), fun c => ⟨by omega, r.2, fun d => nx (fun q => by omega), fun d => ?_⟩⟩⟩
    rw [frst_at (k := b) (by omega) b1 (decide_eq_true ⟨by omega, Classical.not_not.mp c, by omega⟩) (fun i i0 i1 => decide_eq_false (hno i i0 i1))] at hR
    exact hR
  · intro hno
    refine vc_X11_below_2 ?_
    rw [hpe]
    rw [frst_none (by omega) (fun i i0 i1 => decide_eq_false (hno i i0 i1))] at hR
    exact ⟨rr (by omega), rr (by omega), fun _ => hR, fun c => absurd (Int.le_refl _) c⟩
theorem ct_X11_below : Ct mX11_below 0 0 0 0 (nrmS S_X11_below) := by
  refine ct_vm (own := RX11) (by decide +kernel) rfl ?_ ?_
  · intro as μ Q hS
    unfold S_X11_below at hS
    split at hS
    · exact Nat.le_of_ble_eq_true rfl
    · exact hS.elim
  · intro as μ R hS
    unfold S_X11_below at hS
    split at hS
    · exact body_X11_below hS.1 hS.2
    · exact hS.elim
def P_X11_round (o n a : Int) (μ : Mem) : Prop := o = 201 ∧ SOk (stM μ) ∧ r32 n ∧ r32 a
def Q_X11_round (_ n a : Int) (μ μ' : Mem) (r : Int) : Prop := AskM μ μ' ∧ r = onT (stM μ).1 n (-1) (roundT a)
def S_X11_round : S0t := fun as μ Q => match as with
  | [(2, x0), (0, x1), (0, x2)] => P_X11_round x0 x1 x2 μ ∧ ∀ (μ' : Mem) (r : Int), Q_X11_round x0 x1 x2 μ μ' r → Q μ' (some (kI r))
  | _ => False
theorem mono_X11_round : Mono S_X11_round := by
  intro as μ Q Q' h hS
  unfold S_X11_round at hS ⊢
  split at hS
  · exact ⟨hS.1, fun μ' r q => h _ _ (hS.2 _ _ q)⟩
  · exact hS.elim
def iX11_round : Inf := (kX11_round, fTX11, pTX11, cTX11, lTX11, sTX11, [(329, 0, 1, 11, S_X11_isTree), (231, 0, 1, 11, S_X11_isPlace), (334, 0, 0, 11, S_X11_grows), (344, 0, 0, 11, S_X11_allMinutes), (347, 0, 1, 11, S_X11_below), (209, 0, 1, 11, S_X11_of)])
theorem ok_X11_round : infOK iX11_round mX11_round RX11 3 64 := ⟨kkX11_round, fTX11_ok, pTX11_ok _, cTX11_ok, lTX11_ok, sTX11_ok, c_cons ⟨mX11_isTree, 2, 43, ct_X11_isTree, mmX11_isTree, vvX11_isTree, lkX11_329, ⟨by decide, by decide⟩, ⟨_, _, rfl⟩, by decide, mono_X11_isTree⟩ (c_cons ⟨mX11_isPlace, 1, 22, ct_X11_isPlace, mmX11_isPlace, vvX11_isPlace, lkX11_231, ⟨by decide, by decide⟩, ⟨_, _, rfl⟩, by decide, mono_X11_isPlace⟩ (c_cons ⟨mX11_grows, 1, 21, ct_X11_grows, mmX11_grows, vvX11_grows, lkX11_334, ⟨by decide, by decide⟩, ⟨_, _, rfl⟩, by decide, mono_X11_grows⟩ (c_cons ⟨mX11_allMinutes, 1, 21, ct_X11_allMinutes, mmX11_allMinutes, vvX11_allMinutes, lkX11_344, ⟨by decide, by decide⟩, ⟨_, _, rfl⟩, by decide, mono_X11_allMinutes⟩ (c_cons ⟨mX11_below, 0, 0, ct_X11_below, mmX11_below, vvX11_below, lkX11_347, ⟨by decide, by decide⟩, ⟨_, _, rfl⟩, by decide, mono_X11_below⟩ (c_cons ⟨mX11_of, 0, 0, ct_X11_of, mmX11_of, vvX11_of, lkX11_209, ⟨by decide, by decide⟩, ⟨_, _, rfl⟩, by decide, mono_X11_of⟩ (c_nil))))))⟩
theorem mt_X11_round : mtOK [] RX11 3 64 := mt_nil
abbrev V_X11_round (R : Mem → Option AV → Prop) (pc : Nat) (lc : List (Nat × AV)) (μ : Mem) : Prop := VM mX11_round RX11 3 64 R pc lc [] μ
set_option maxRecDepth 20000 in
theorem vc_X11_round_0 {R : Mem → Option AV → Prop} {n a : Int} {μ : Mem} (H : P_X11_isTree 201 n μ ∧ (∀ (μ1 : Mem) (rv2 : Int), Q_X11_isTree 201 n μ μ1 rv2 → r32 rv2 ∧ ((rv2 = 0) → R μ1 (some (kI (-1)))) ∧ (¬ (rv2 = 0) → P_X11_isPlace 201 a μ1 ∧ r32 (F_X11_isPlace 201 a μ1) ∧ ((¬ (F_X11_isPlace 201 a μ1) = 0) → P_X11_grows 201 μ1 ∧ (∀ (μ4 : Mem), Q_X11_grows 201 μ1 μ4 → V_X11_round R 22 [(0, kR 201), (2, kI a)] μ4)) ∧ (¬ (¬ (F_X11_isPlace 201 a μ1) = 0) → R μ1 (some (kI (-1))))))) : V_X11_round R 0 [(0, kR 201), (1, kI n), (2, kI a)] μ := by
  refine vm_step2 mt_X11_round ok_X11_round [(22, [0, 2]), (24, [0, 2, 3]), (37, [0, 2, 3]), (44, [0, 2, 3]), (57, [0, 2]), (62, [0, 2, 3, 4]), (81, [0, 2, 3, 4, 5]), (137, [0, 2, 4, 6])] 1000 ?_
  show isC 201 11 ∧ P_X11_isTree 201 n μ ∧ (∀ (μ1 : Mem) (rv2 : Int), Q_X11_isTree 201 n μ μ1 rv2 → r32 rv2 ∧ ((rv2 = 0) → R μ1 (some (kI (-1)))) ∧ (¬ (rv2 = 0) → isC 201 11 ∧ P_X11_isPlace 201 a μ1 ∧ r32 (F_X11_isPlace 201 a μ1) ∧ ((¬ (F_X11_isPlace 201 a μ1) = 0) → isC 201 11 ∧ P_X11_grows 201 μ1 ∧ (∀ (μ4 : Mem), Q_X11_grows 201 μ1 μ4 → V_X11_round R 22 [(0, kR 201), (2, kI a)] μ4)) ∧ (¬ (¬ (F_X11_isPlace 201 a μ1) = 0) → R μ1 (some (kI (-1))))))
  exact ⟨c_201, H.1, fun μ1 rv2 hq3 => ⟨(H.2 μ1 rv2 hq3).1, fun hc8 => ((H.2 μ1 rv2 hq3).2.1 hc8), fun hc8 => ⟨c_201, ((H.2 μ1 rv2 hq3).2.2 hc8).1, ⟨((H.2 μ1 rv2 hq3).2.2 hc8).2.1, fun hc7 => ⟨c_201, (((H.2 μ1 rv2 hq3).2.2 hc8).2.2.1 hc7).1, fun μ4 hq6 => ((((H.2 μ1 rv2 hq3).2.2 hc8).2.2.1 hc7).2 μ4 hq6)⟩, fun hc7 => (((H.2 μ1 rv2 hq3).2.2 hc8).2.2.2 hc7)⟩⟩⟩⟩
set_option maxRecDepth 20000 in
theorem vc_X11_round_22 {R : Mem → Option AV → Prop} {a : Int} {μ : Mem} (H : V_X11_round R 24 [(0, kR 201), (2, kI a), (3, kI 0)] μ) : V_X11_round R 22 [(0, kR 201), (2, kI a)] μ := by
  refine vm_step2 mt_X11_round ok_X11_round [(22, [0, 2]), (24, [0, 2, 3]), (37, [0, 2, 3]), (44, [0, 2, 3]), (57, [0, 2]), (62, [0, 2, 3, 4]), (81, [0, 2, 3, 4, 5]), (137, [0, 2, 4, 6])] 1000 ?_
  show V_X11_round R 24 [(0, kR 201), (2, kI a), (3, kI 0)] μ
  exact H
set_option maxRecDepth 20000 in
theorem vc_X11_round_24 {R : Mem → Option AV → Prop} {a h : Int} {μ : Mem} (H : r32 h ∧ (((8 : Int) ≤ h) → V_X11_round R 57 [(0, kR 201), (2, kI a)] (updm μ 218 0 0)) ∧ (¬ ((8 : Int) ≤ h) → (0 ≤ h ∧ h < 8) ∧ V_X11_round R 37 [(0, kR 201), (2, kI a), (3, kI h)] (updm μ 218 h (-1)))) : V_X11_round R 24 [(0, kR 201), (2, kI a), (3, kI h)] μ := by
  refine vm_step2 mt_X11_round ok_X11_round [(22, [0, 2]), (24, [0, 2, 3]), (37, [0, 2, 3]), (44, [0, 2, 3]), (57, [0, 2]), (62, [0, 2, 3, 4]), (81, [0, 2, 3, 4, 5]), (137, [0, 2, 4, 6])] 1000 ?_
  show (r32 h ∧ r32 (8 : Int)) ∧ (((8 : Int) ≤ h) → isC 201 11 ∧ inA 218 0 (0 : Int) ∧ V_X11_round R 57 [(0, kR 201), (2, kI a)] (updm μ 218 0 0)) ∧ (¬ ((8 : Int) ≤ h) → isC 201 11 ∧ inA 218 0 h ∧ V_X11_round R 37 [(0, kR 201), (2, kI a), (3, kI h)] (updm μ 218 h (-1)))
  exact ⟨⟨H.1, by unfold r32; omega⟩, fun hc9 => ⟨c_201, ⟨isArr.in a_218 (by omega) (by omega), (H.2.1 hc9)⟩⟩, fun hc9 => ⟨c_201, ⟨isArr.in a_218 (H.2.2 hc9).1.1 (H.2.2 hc9).1.2, (H.2.2 hc9).2⟩⟩⟩
set_option maxRecDepth 20000 in
theorem vc_X11_round_37 {R : Mem → Option AV → Prop} {a h : Int} {μ : Mem} (H : (0 ≤ h ∧ h < 8) ∧ V_X11_round R 44 [(0, kR 201), (2, kI a), (3, kI h)] (updm μ 219 h 0)) : V_X11_round R 37 [(0, kR 201), (2, kI a), (3, kI h)] μ := by
  refine vm_step2 mt_X11_round ok_X11_round [(22, [0, 2]), (24, [0, 2, 3]), (37, [0, 2, 3]), (44, [0, 2, 3]), (57, [0, 2]), (62, [0, 2, 3, 4]), (81, [0, 2, 3, 4, 5]), (137, [0, 2, 4, 6])] 1000 ?_
  show isC 201 11 ∧ inA 219 0 h ∧ V_X11_round R 44 [(0, kR 201), (2, kI a), (3, kI h)] (updm μ 219 h 0)
  exact ⟨c_201, ⟨isArr.in a_219 H.1.1 H.1.2, H.2⟩⟩
set_option maxRecDepth 20000 in
theorem vc_X11_round_44 {R : Mem → Option AV → Prop} {a h : Int} {μ : Mem} (H : V_X11_round R 24 [(0, kR 201), (2, kI a), (3, kI (h + 1))] μ) : V_X11_round R 44 [(0, kR 201), (2, kI a), (3, kI h)] μ := by
  refine vm_step2 mt_X11_round ok_X11_round [(22, [0, 2]), (24, [0, 2, 3]), (37, [0, 2, 3]), (44, [0, 2, 3]), (57, [0, 2]), (62, [0, 2, 3, 4]), (81, [0, 2, 3, 4, 5]), (137, [0, 2, 4, 6])] 1000 ?_
  show V_X11_round R 24 [(0, kR 201), (2, kI a), (3, kI (h + 1))] μ
  exact H
set_option maxRecDepth 20000 in
theorem vc_X11_round_57 {R : Mem → Option AV → Prop} {a : Int} {μ : Mem} (H : V_X11_round R 62 [(0, kR 201), (2, kI a), (3, kI 0), (4, kI 0)] μ) : V_X11_round R 57 [(0, kR 201), (2, kI a)] μ := by
  refine vm_step2 mt_X11_round ok_X11_round [(22, [0, 2]), (24, [0, 2, 3]), (37, [0, 2, 3]), (44, [0, 2, 3]), (57, [0, 2]), (62, [0, 2, 3, 4]), (81, [0, 2, 3, 4, 5]), (137, [0, 2, 4, 6])] 1000 ?_
  show V_X11_round R 62 [(0, kR 201), (2, kI a), (3, kI 0), (4, kI 0)] μ
  exact H
set_option maxRecDepth 20000 in
theorem vc_X11_round_62 {R : Mem → Option AV → Prop} {a h now : Int} {μ : Mem} (H : r32 h ∧ ((h < 0) → (0 ≤ a ∧ a < 8) ∧ P_X11_allMinutes 201 μ ∧ (0 ≤ a ∧ a < 8) ∧ R μ (some (kI (((μ 218 a) + (2 * (F_X11_allMinutes 201 μ))) - (μ 219 a))))) ∧ (¬ (h < 0) → P_X11_below 201 h μ ∧ (0 ≤ h ∧ h < 8) ∧ V_X11_round R 81 [(0, kR 201), (2, kI a), (3, kI h), (4, kI now), (5, kI (F_X11_below 201 h μ))] (updm μ 219 h now))) : V_X11_round R 62 [(0, kR 201), (2, kI a), (3, kI h), (4, kI now)] μ := by
  refine vm_step2 mt_X11_round ok_X11_round [(22, [0, 2]), (24, [0, 2, 3]), (37, [0, 2, 3]), (44, [0, 2, 3]), (57, [0, 2]), (62, [0, 2, 3, 4]), (81, [0, 2, 3, 4, 5]), (137, [0, 2, 4, 6])] 1000 ?_
  show r32 h ∧ ((h < 0) → isC 201 11 ∧ inA 218 0 a ∧ isC 201 11 ∧ P_X11_allMinutes 201 μ ∧ isC 201 11 ∧ inA 219 0 a ∧ R μ (some (kI (((μ 218 a) + (2 * (F_X11_allMinutes 201 μ))) - (μ 219 a))))) ∧ (¬ (h < 0) → isC 201 11 ∧ P_X11_below 201 h μ ∧ isC 201 11 ∧ inA 219 0 h ∧ V_X11_round R 81 [(0, kR 201), (2, kI a), (3, kI h), (4, kI now), (5, kI (F_X11_below 201 h μ))] (updm μ 219 h now))
  exact ⟨H.1, fun hc10 => ⟨c_201, ⟨isArr.in a_218 (H.2.1 hc10).1.1 (H.2.1 hc10).1.2, ⟨c_201, (H.2.1 hc10).2.1, ⟨c_201, ⟨isArr.in a_219 (H.2.1 hc10).2.2.1.1 (H.2.1 hc10).2.2.1.2, (H.2.1 hc10).2.2.2⟩⟩⟩⟩⟩, fun hc10 => ⟨c_201, (H.2.2 hc10).1, ⟨c_201, ⟨isArr.in a_219 (H.2.2 hc10).2.1.1 (H.2.2 hc10).2.1.2, (H.2.2 hc10).2.2⟩⟩⟩⟩
set_option maxRecDepth 20000 in
theorem vc_X11_round_81 {R : Mem → Option AV → Prop} {a h now b : Int} {μ : Mem} (H : r32 b ∧ ((0 ≤ b) → r32 b ∧ ((b < 0) → r32 b ∧ ((b < 0) → V_X11_round R 137 [(0, kR 201), (2, kI a), (4, kI now), (6, kI b)] μ) ∧ (¬ (b < 0) → (0 ≤ b ∧ b < 8) ∧ V_X11_round R 137 [(0, kR 201), (2, kI a), (4, kI now), (6, kI b)] (updm μ 218 b now))) ∧ (¬ (b < 0) → P_X11_of 201 ((40 + (8 * h)) + b) μ ∧ r32 b ∧ ((b < 0) → V_X11_round R 137 [(0, kR 201), (2, kI a), (4, kI (now + (F_X11_of 201 ((40 + (8 * h)) + b) μ))), (6, kI b)] μ) ∧ (¬ (b < 0) → (0 ≤ b ∧ b < 8) ∧ V_X11_round R 137 [(0, kR 201), (2, kI a), (4, kI (now + (F_X11_of 201 ((40 + (8 * h)) + b) μ))), (6, kI b)] (updm μ 218 b (now + (F_X11_of 201 ((40 + (8 * h)) + b) μ)))))) ∧ (¬ (0 ≤ b) → (0 ≤ h ∧ h < 8) ∧ r32 (μ 215 h) ∧ (((μ 215 h) < 0) → r32 b ∧ ((b < 0) → V_X11_round R 137 [(0, kR 201), (2, kI a), (4, kI now), (6, kI (μ 215 h))] μ) ∧ (¬ (b < 0) → (0 ≤ b ∧ b < 8) ∧ V_X11_round R 137 [(0, kR 201), (2, kI a), (4, kI now), (6, kI (μ 215 h))] (updm μ 218 b now))) ∧ (¬ ((μ 215 h) < 0) → P_X11_of 201 ((40 + (8 * h)) + (μ 215 h)) μ ∧ r32 b ∧ ((b < 0) → V_X11_round R 137 [(0, kR 201), (2, kI a), (4, kI (now + (F_X11_of 201 ((40 + (8 * h)) + (μ 215 h)) μ))), (6, kI (μ 215 h))] μ) ∧ (¬ (b < 0) → (0 ≤ b ∧ b < 8) ∧ V_X11_round R 137 [(0, kR 201), (2, kI a), (4, kI (now + (F_X11_of 201 ((40 + (8 * h)) + (μ 215 h)) μ))), (6, kI (μ 215 h))] (updm μ 218 b (now + (F_X11_of 201 ((40 + (8 * h)) + (μ 215 h)) μ))))))) : V_X11_round R 81 [(0, kR 201), (2, kI a), (3, kI h), (4, kI now), (5, kI b)] μ := by
  refine vm_step2 mt_X11_round ok_X11_round [(22, [0, 2]), (24, [0, 2, 3]), (37, [0, 2, 3]), (44, [0, 2, 3]), (57, [0, 2]), (62, [0, 2, 3, 4]), (81, [0, 2, 3, 4, 5]), (137, [0, 2, 4, 6])] 1000 ?_
  show r32 b ∧ ((0 ≤ b) → r32 b ∧ ((b < 0) → r32 b ∧ ((b < 0) → V_X11_round R 137 [(0, kR 201), (2, kI a), (4, kI now), (6, kI b)] μ) ∧ (¬ (b < 0) → isC 201 11 ∧ inA 218 0 b ∧ V_X11_round R 137 [(0, kR 201), (2, kI a), (4, kI now), (6, kI b)] (updm μ 218 b now))) ∧ (¬ (b < 0) → isC 201 11 ∧ P_X11_of 201 ((40 + (8 * h)) + b) μ ∧ r32 b ∧ ((b < 0) → V_X11_round R 137 [(0, kR 201), (2, kI a), (4, kI (now + (F_X11_of 201 ((40 + (8 * h)) + b) μ))), (6, kI b)] μ) ∧ (¬ (b < 0) → isC 201 11 ∧ inA 218 0 b ∧ V_X11_round R 137 [(0, kR 201), (2, kI a), (4, kI (now + (F_X11_of 201 ((40 + (8 * h)) + b) μ))), (6, kI b)] (updm μ 218 b (now + (F_X11_of 201 ((40 + (8 * h)) + b) μ)))))) ∧ (¬ (0 ≤ b) → isC 201 11 ∧ inA 215 0 h ∧ r32 (μ 215 h) ∧ (((μ 215 h) < 0) → r32 b ∧ ((b < 0) → V_X11_round R 137 [(0, kR 201), (2, kI a), (4, kI now), (6, kI (μ 215 h))] μ) ∧ (¬ (b < 0) → isC 201 11 ∧ inA 218 0 b ∧ V_X11_round R 137 [(0, kR 201), (2, kI a), (4, kI now), (6, kI (μ 215 h))] (updm μ 218 b now))) ∧ (¬ ((μ 215 h) < 0) → isC 201 11 ∧ P_X11_of 201 ((40 + (8 * h)) + (μ 215 h)) μ ∧ r32 b ∧ ((b < 0) → V_X11_round R 137 [(0, kR 201), (2, kI a), (4, kI (now + (F_X11_of 201 ((40 + (8 * h)) + (μ 215 h)) μ))), (6, kI (μ 215 h))] μ) ∧ (¬ (b < 0) → isC 201 11 ∧ inA 218 0 b ∧ V_X11_round R 137 [(0, kR 201), (2, kI a), (4, kI (now + (F_X11_of 201 ((40 + (8 * h)) + (μ 215 h)) μ))), (6, kI (μ 215 h))] (updm μ 218 b (now + (F_X11_of 201 ((40 + (8 * h)) + (μ 215 h)) μ))))))
  exact ⟨H.1, fun hc17 => ⟨(H.2.1 hc17).1, fun hc13 => ⟨((H.2.1 hc17).2.1 hc13).1, fun hc11 => (((H.2.1 hc17).2.1 hc13).2.1 hc11), fun hc11 => ⟨c_201, ⟨isArr.in a_218 (((H.2.1 hc17).2.1 hc13).2.2 hc11).1.1 (((H.2.1 hc17).2.1 hc13).2.2 hc11).1.2, (((H.2.1 hc17).2.1 hc13).2.2 hc11).2⟩⟩⟩, fun hc13 => ⟨c_201, ((H.2.1 hc17).2.2 hc13).1, ⟨((H.2.1 hc17).2.2 hc13).2.1, fun hc12 => (((H.2.1 hc17).2.2 hc13).2.2.1 hc12), fun hc12 => ⟨c_201, ⟨isArr.in a_218 (((H.2.1 hc17).2.2 hc13).2.2.2 hc12).1.1 (((H.2.1 hc17).2.2 hc13).2.2.2 hc12).1.2, (((H.2.1 hc17).2.2 hc13).2.2.2 hc12).2⟩⟩⟩⟩⟩, fun hc17 => ⟨c_201, ⟨isArr.in a_215 (H.2.2 hc17).1.1 (H.2.2 hc17).1.2, ⟨(H.2.2 hc17).2.1, fun hc16 => ⟨((H.2.2 hc17).2.2.1 hc16).1, fun hc14 => (((H.2.2 hc17).2.2.1 hc16).2.1 hc14), fun hc14 => ⟨c_201, ⟨isArr.in a_218 (((H.2.2 hc17).2.2.1 hc16).2.2 hc14).1.1 (((H.2.2 hc17).2.2.1 hc16).2.2 hc14).1.2, (((H.2.2 hc17).2.2.1 hc16).2.2 hc14).2⟩⟩⟩, fun hc16 => ⟨c_201, ((H.2.2 hc17).2.2.2 hc16).1, ⟨((H.2.2 hc17).2.2.2 hc16).2.1, fun hc15 => (((H.2.2 hc17).2.2.2 hc16).2.2.1 hc15), fun hc15 => ⟨c_201, ⟨isArr.in a_218 (((H.2.2 hc17).2.2.2 hc16).2.2.2 hc15).1.1 (((H.2.2 hc17).2.2.2 hc16).2.2.2 hc15).1.2, (((H.2.2 hc17).2.2.2 hc16).2.2.2 hc15).2⟩⟩⟩⟩⟩⟩⟩⟩
set_option maxRecDepth 20000 in
theorem vc_X11_round_137 {R : Mem → Option AV → Prop} {a now to_ : Int} {μ : Mem} (H : V_X11_round R 62 [(0, kR 201), (2, kI a), (3, kI to_), (4, kI now)] μ) : V_X11_round R 137 [(0, kR 201), (2, kI a), (4, kI now), (6, kI to_)] μ := by
  refine vm_step2 mt_X11_round ok_X11_round [(22, [0, 2]), (24, [0, 2, 3]), (37, [0, 2, 3]), (44, [0, 2, 3]), (57, [0, 2]), (62, [0, 2, 3, 4]), (81, [0, 2, 3, 4, 5]), (137, [0, 2, 4, 6])] 1000 ?_
  show V_X11_round R 62 [(0, kR 201), (2, kI a), (3, kI to_), (4, kI now)] μ
  exact H
/-- what is held on the way round: where it was, how late -/
def InvT (v : TV) (μ m : Mem) : Prop := (∀ z : Int, z ≠ 218 → z ≠ 219 → m z = μ z) ∧ (∀ y : Int, 0 ≤ y → y < v 0 0 → -1 ≤ m 218 y ∧ m 218 y ≤ 10000) ∧ ∀ y : Int, 0 < y → y < v 0 0 → 0 ≤ m 218 y → 0 ≤ m 218 (parV v y)
/-- below x all is done that wasn't -/
def PartT (v : TV) (μ : Mem) (x : Int) (m m' : Mem) : Prop := InvT v μ m' ∧ (∀ y : Int, 0 ≤ y → y < v 0 0 → 0 ≤ m 218 y → m' 218 y = m 218 y ∧ (y ≠ x → m' 219 y = m 219 y)) ∧
  ∀ y : Int, 0 < y → y < v 0 0 → m 218 y < 0 → 0 ≤ m' 218 y → m' 219 y = m' 218 y + 2 * bsV v y ∧ (m 218 (parV v y) < 0 ∨ parV v y = x) ∧ ∀ c : Int, 0 < c → c < v 0 0 → parV v c = y → 0 ≤ m' 218 c
def PostT (v : TV) (μ : Mem) (x t : Int) (m m' : Mem) : Prop := PartT v μ x m m' ∧ (∀ c : Int, 0 < c → c < v 0 0 → parV v c = x → 0 ≤ m' 218 c) ∧ m' 219 x = t + 2 * bsV v x
/-- what of x's branches is done -/
def dnV (v : TV) (x : Int) (m : Mem) : Int := sm (fun c => if (c ≠ 0 ∧ parV v c = x) ∧ 0 ≤ m 218 c then brV v c else 0) (v 0 0)
def upV (v : TV) (x : Int) : Int := if x = 0 then -1 else parV v x
theorem body_X11_round {o n a : Int} {μ : Mem} {R : Mem → Option AV → Prop} (h : P_X11_round o n a μ) (hR : ∀ (μ' : Mem) (r : Int), Q_X11_round o n a μ μ' r → R μ' (some (kI r))) : V_X11_round R 0 [(0, kR o), (1, kI n), (2, kI a)] μ := by
  obtain ⟨rfl, hs, r_n, r_a⟩ := h
  refine vc_X11_round_0 ⟨⟨rfl, hs, r_n⟩, fun m rv q => ?_⟩
  obtain ⟨q1, q2, q3, q4⟩ := q
  have ask : AskM μ m := fun z hz => q1 z (by omega)
  by_cases c : (0 ≤ n ∧ n < μ 202 0) ∧ (stM μ).1.2.2 n 1 0 = (stM μ).1.2.2 n 0 0 - 1
  · have c2 := c.2
    obtain ⟨rfl, hb, hv, h12⟩ := q4 c
    have ok := hb.v
    have vok : VOk (vm m) := hb.2.2
    have hj := vok.2.1
    have hp := ok.1
    have hpe := hb.2.1
    rw [← hv] at c2
    have ht : isTr (vm m) := c2
    have fin : ∀ (m' : Mem) (x : Int), AskM m m' → x = (roundT a) (vm m) → R m' (some (kI x)) := fun m' x ha hx => hR m' x ⟨ask.trans ha, by rw [hx, onM_yes c.1, ← hv]⟩
    have a0 := AskM_0 m
    unfold roundT at fin
    refine ⟨rr (by omega), fun q => absurd q (by omega), fun _ => ?_⟩
    have ir := isPlace_r (o := 201) (a := a) (μ := m)
    refine ⟨⟨rfl, hb, r_a⟩, rr (by omega), fun d => ?_, fun d => fin m _ a0 ?_⟩
    · have da := isPlace_1.mp d
      rw [if_pos ⟨ht, da⟩] at fin
      refine ⟨⟨rfl, hb, ht⟩, fun m4 q => vc_X11_round_22 ?_⟩
      obtain ⟨tr, qz⟩ := q
      obtain ⟨mb4, ev4⟩ := MB_frame hb (qz 202 (by omega) (by omega) (by omega)) (by rw [qz 201 (by omega) (by omega) (by omega)]) (by rw [qz 201 (by omega) (by omega) (by omega)])
      have e134 : m4 201 13 = m 201 13 := by rw [qz 201 (by omega) (by omega) (by omega)]
      obtain ⟨v, hv'⟩ : ∃ v : TV, v = vm m := ⟨_, rfl⟩
      rw [← hv'] at ok vok hj hp hpe ht fin da tr ev4
      have fr : ∀ x : Mem, (∀ z : Int, z ≠ 218 → z ≠ 219 → x z = m4 z) → MB x ∧ vm x = v ∧ AskM m x ∧ x 215 = m4 215 := fun x hx => by
        obtain ⟨mb, ev⟩ := MB_frame mb4 (hx 202 (by omega) (by omega)) (by rw [hx 201 (by omega) (by omega)]) (by rw [hx 201 (by omega) (by omega)])
        exact ⟨mb, by rw [ev, ev4], fun z hz => by rw [hx z (by omega) (by omega), qz z (by omega) (by omega) (by omega)], hx 215 (by omega) (by omega)⟩
      have par : ∀ y : Int, 0 < y → y < v 0 0 → (0 ≤ parV v y ∧ parV v y < v 0 0) ∧ wayV v 0 (parV v y) < wayV v 0 y := fun y y0 y1 => ⟨par_in ok y, (par_lt ok hj y0 y1).2⟩
      -- below a place
      have sub : ∀ (k : Nat) (x t : Int) (m0 : Mem), (0 ≤ x ∧ x < v 0 0) → cnt (fun b => decide (wayV v 0 x < wayV v 0 b)) (v 0 0) ≤ k → InvT v m4 m0 → 0 ≤ m0 218 x → (∀ c : Int, 0 < c → c < v 0 0 → parV v c = x → m0 218 c < 0) → 0 ≤ t → t + 2 * bsV v x ≤ 10000 → (∀ m' : Mem, PostT v m4 x t m0 m' → V_X11_round R 62 [(0, kR 201), (2, kI a), (3, kI (upV v x)), (4, kI (t + 2 * bsV v x + (if x = 0 then 0 else lenV v x)))] m') → V_X11_round R 62 [(0, kR 201), (2, kI a), (3, kI x), (4, kI t)] m0 := by
        intro k
        induction k using Nat.strongRecOn with
        | _ k ih =>
          intro x t m0 hx hc hI h0 hch t0 t1 cont
          have inner : ∀ (l : Nat) (m' : Mem), cnt (fun c => decide ((c ≠ 0 ∧ parV v c = x) ∧ m' 218 c < 0)) (v 0 0) ≤ l → PartT v m4 x m0 m' → V_X11_round R 62 [(0, kR 201), (2, kI a), (3, kI x), (4, kI (t + 2 * dnV v x m'))] m' := by
            intro l
            induction l using Nat.strongRecOn with
            | _ l ihl =>
              intro m' hl hP
              have hP0 := hP
              obtain ⟨hI', hold, hnew⟩ := hP
              obtain ⟨mb, ev, ak, e15⟩ := fr m' hI'.1
              have hx' : 0 ≤ m' 218 x := by rw [(hold x hx.1 hx.2 h0).1]; exact h0
              have r15 : ∀ b : Int, 0 < b → b < v 0 0 → m' 215 b = parV v b := fun b b0 b1 => by rw [e15]; exact (tr.2 b b0 b1).1
              have up : m' 215 x = upV v x := by
                unfold upV
                by_cases x0 : x = 0
                · rw [if_pos x0, x0, e15]; exact tr.1
                · rw [if_neg x0]; exact r15 x (by omega) hx.2
              have rup : -1 ≤ upV v x ∧ upV v x < v 0 0 := by
                unfold upV
                have := par_in ok x
                split <;> omega
              obtain ⟨now, enow⟩ : ∃ now : Int, now = t + 2 * dnV v x m' := ⟨_, rfl⟩
              have fb : F_X11_below 201 x m' = frst (fun b => decide (b ≠ 0 ∧ m' 215 b = x ∧ m' 218 b < 0)) (v 0 0) := by unfold F_X11_below; rw [ev]
              refine vc_X11_round_62 ⟨rr (by omega), fun q => absurd q (by omega), fun _ => ⟨⟨rfl, mb, fun b b0 b1 => ?_, rr (by omega)⟩, by omega, ?_⟩⟩
              · rw [ev] at b1
                have := par b b0 b1
                have := hI'.2.1 b (by omega) b1
                rw [r15 b b0 b1]
                exact ⟨rr (by omega), rr (by omega)⟩
              rw [fb, ← enow]
              obtain ⟨m1, em1⟩ : ∃ m1, m1 = updm m' 219 x now := ⟨_, rfl⟩
              rw [← em1]
              have f1 : ∀ z : Int, z ≠ 218 → z ≠ 219 → m1 z = m4 z := fun z z0 z1 => by rw [em1, ru_ne z1, hI'.1 z z0 z1]
              have e18 : m1 218 = m' 218 := by rw [em1, ru_ne (by omega)]
              have e19 : ∀ y : Int, y ≠ x → m1 219 y = m' 219 y := fun y q => by rw [em1, ru_eq, r1_ne q]
              have e19x : m1 219 x = now := by rw [em1, ru_eq, r1_eq]
              obtain ⟨mb1, ev1, ak1, e151⟩ := fr m1 f1
              rcases frst_cases (fun b => decide (b ≠ 0 ∧ m' 215 b = x ∧ m' 218 b < 0)) (n := v 0 0) (by omega) with ⟨ef, hno⟩ | ⟨b, b0, b1, ef, hb', _⟩
              · -- all its children are done
                rw [ef]
                have hall : ∀ c : Int, 0 < c → c < v 0 0 → parV v c = x → 0 ≤ m' 218 c := fun c c0 c1 cp => by
                  have := of_decide_eq_false (hno c (by omega) c1)
                  rw [r15 c c0 c1] at this
                  exact Classical.byContradiction fun q => this ⟨by omega, cp, by omega⟩
                have edn : dnV v x m' = bsV v x := by
                  unfold dnV bsV
                  refine sm_congr fun c c0 c1 => ?_
                  by_cases q : c ≠ 0 ∧ parV v c = x
                  · rw [if_pos ⟨q, hall c (by omega) c1 q.2⟩, if_pos q]
                  · rw [if_neg (fun w => q w.1), if_neg q]
                rw [edn] at enow
                have hpost : PostT v m4 x t m0 m1 := by
                  refine ⟨⟨⟨f1, by rw [e18]; exact hI'.2.1, by rw [e18]; exact hI'.2.2⟩, fun y y0 y1 hy => ?_, fun y y0 y1 hy hy' => ?_⟩, by rw [e18]; exact hall, by rw [e19x, enow]⟩
                  · rw [e18]
                    exact ⟨(hold y y0 y1 hy).1, fun q => by rw [e19 y q]; exact (hold y y0 y1 hy).2 q⟩
                  · rw [e18] at hy' ⊢
                    rw [e19 y (fun q => by rw [q] at hy; omega)]
                    exact hnew y y0 y1 hy hy'
                have ct := cont m1 hpost
                rw [← enow] at ct
                have e215 : m1 215 x = upV v x := by rw [e151, ← e15, up]
                refine vc_X11_round_81 ?_
                rw [e215]
                refine ⟨rr (by omega), fun q => absurd q (by omega), fun _ => ⟨by omega, rr (by omega), fun q => ⟨rr (by omega), fun _ => vc_X11_round_137 ?_, fun w => absurd (show (-1 : Int) < 0 by omega) w⟩, fun q => ?_⟩⟩
                · have x0 : x = 0 := Classical.byContradiction fun w => by
                    unfold upV at q
                    rw [if_neg w] at q
                    have := par_in ok x
                    omega
                  rw [if_pos x0, Int.add_zero] at ct
                  exact ct
                · have x0 : x ≠ 0 := fun w => by
                    unfold upV at q
                    rw [if_pos w] at q
                    omega
                  have eu : upV v x = parV v x := if_neg x0
                  rw [if_neg x0, eu] at ct
                  rw [eu] at rup ⊢
                  rw [of_7' hx.1 (by omega) (by omega) (by omega), ev1, len_lane vok ht (by omega) hx.2]
                  exact ⟨⟨rfl, mb1.1, by omega, by omega⟩, rr (by omega), fun _ => vc_X11_round_137 ct, fun w => absurd (show (-1 : Int) < 0 by omega) w⟩
              · -- into the next
                rw [ef]
                have hbb := of_decide_eq_true hb'
                rw [r15 b (by omega) b1] at hbb
                have bpos : 0 < b := by omega
                have pb := par b bpos b1
                have bx : b ≠ x := fun q => by rw [q] at hbb; omega
                have lb := len_bd ok hj bpos b1
                have be := br_eq ok hj bpos b1
                have bsb := bs_bd ok hj (show 0 ≤ b by omega) b1
                have unb : m0 218 b < 0 := Classical.byContradiction fun q => by
                  have := (hold b b0 b1 (by omega)).1
                  omega
                -- what of x's branches is done, and this one
                have room : dnV v x m' + brV v b ≤ bsV v x := by
                  have h1 := sm_le (f := fun c => (if (c ≠ 0 ∧ parV v c = x) ∧ 0 ≤ m' 218 c then brV v c else 0) + (if c = b then brV v b else 0)) (g := fun c => if c ≠ 0 ∧ parV v c = x then brV v c else 0) (n := v 0 0) (fun c c0 c1 => by
                    show (if (c ≠ 0 ∧ parV v c = x) ∧ 0 ≤ m' 218 c then brV v c else 0) + (if c = b then brV v b else 0) ≤ if c ≠ 0 ∧ parV v c = x then brV v c else 0
                    have bc := br_bd ok hj (p := c)
                    by_cases q : c = b
                    · rw [if_pos q, q, if_neg (fun w => by omega), if_pos ⟨hbb.1, hbb.2.1⟩]; omega
                    · rw [if_neg q]
                      by_cases w : (c ≠ 0 ∧ parV v c = x) ∧ 0 ≤ m' 218 c
                      · rw [if_pos w, if_pos w.1]; omega
                      · rw [if_neg w]
                        split <;> omega) (by omega)
                  rw [sm_add (by omega), sm_one (by omega), if_pos ⟨b0, b1⟩] at h1
                  exact h1
                have dn0 : 0 ≤ dnV v x m' := sm_nn (fun c c0 c1 => by
                  show 0 ≤ (if (c ≠ 0 ∧ parV v c = x) ∧ 0 ≤ m' 218 c then brV v c else 0)
                  have := br_bd ok hj (p := c)
                  split <;> omega) (by omega)
                have el : F_X11_of 201 (40 + 8 * x + b) m1 = lenV v b := by
                  rw [of_7' hx.1 (by omega) b0 (by omega), ev1, (ok.2.2.2.2.2.2.1 x b hx.1 (by omega) b0 (by omega)).1, ← len_lane vok ht bpos b1, hbb.2.1]
                refine vc_X11_round_81 ?_
                rw [el]
                refine ⟨rr (by omega), fun _ => ⟨rr (by omega), fun q => absurd q (by omega), fun _ => ⟨⟨rfl, mb1.1, by omega, by omega⟩, rr (by omega), fun q => absurd q (by omega), fun _ => ⟨by omega, vc_X11_round_137 ?_⟩⟩⟩, fun q => absurd b0 q⟩
                obtain ⟨m2, em2⟩ : ∃ m2, m2 = updm m1 218 b (now + lenV v b) := ⟨_, rfl⟩
                rw [← em2]
                have g218 : ∀ y : Int, y ≠ b → m2 218 y = m' 218 y := fun y q => by rw [em2, ru_eq, r1_ne q, e18]
                have g218b : m2 218 b = now + lenV v b := by rw [em2, ru_eq, r1_eq]
                have g219 : m2 219 = m1 219 := by rw [em2, ru_ne (by omega)]
                have f2 : ∀ z : Int, z ≠ 218 → z ≠ 219 → m2 z = m4 z := fun z z0 z1 => by rw [em2, ru_ne z0, f1 z z0 z1]
                have hI2 : InvT v m4 m2 := by
                  refine ⟨f2, fun y y0 y1 => ?_, fun y y0 y1 hy => ?_⟩
                  · by_cases q : y = b
                    · rw [q, g218b]; omega
                    · rw [g218 y q]; exact hI'.2.1 y y0 y1
                  · by_cases q : parV v y = b
                    · rw [q, g218b]; omega
                    · rw [g218 _ q]
                      by_cases w : y = b
                      · rw [w, hbb.2.1]; exact hx'
                      · rw [g218 y w] at hy; exact hI'.2.2 y y0 y1 hy
                have hch2 : ∀ c : Int, 0 < c → c < v 0 0 → parV v c = b → m2 218 c < 0 := fun c c0 c1 cp => by
                  have := par c c0 c1
                  have cb : c ≠ b := fun q => by rw [q] at this; rw [q] at cp; rw [cp] at this; omega
                  rw [g218 c cb]
                  exact Classical.byContradiction fun q => by
                    have := hI'.2.2 c c0 c1 (by omega)
                    rw [cp] at this
                    omega
                have hcb : cnt (fun c => decide (wayV v 0 b < wayV v 0 c)) (v 0 0) < cnt (fun c => decide (wayV v 0 x < wayV v 0 c)) (v 0 0) := cnt_lt (x := b) (fun c _ _ q => by
                  have := of_decide_eq_true q
                  rw [hbb.2.1] at pb
                  exact decide_eq_true (by omega)) b0 b1 (decide_eq_false (by omega)) (decide_eq_true (by rw [hbb.2.1] at pb; omega))
                have hc0 := cnt_bd (p := fun c => decide (wayV v 0 b < wayV v 0 c)) (n := v 0 0) (by omega)
                refine ih (cnt (fun c => decide (wayV v 0 b < wayV v 0 c)) (v 0 0)).toNat (by omega) b (now + lenV v b) m2 ⟨b0, b1⟩ (by omega) hI2 (by rw [g218b]; omega) hch2 (by omega) (by omega) (fun m3 hp3 => ?_)
                obtain ⟨⟨hI3, hold3, hnew3⟩, hch3, h3b⟩ := hp3
                have eup : upV v b = x := by unfold upV; rw [if_neg (by omega)]; exact hbb.2.1
                -- what was done stays
                have keep : ∀ y : Int, 0 ≤ y → y < v 0 0 → 0 ≤ m' 218 y → m3 218 y = m' 218 y ∧ (y ≠ x → m3 219 y = m' 219 y) := fun y y0 y1 hy => by
                  have yb : y ≠ b := fun q => by rw [q] at hy; omega
                  have := hold3 y y0 y1 (by rw [g218 y yb]; exact hy)
                  rw [g218 y yb, g219] at this
                  exact ⟨this.1, fun q => by rw [this.2 yb, e19 y q]⟩
                have hb3 := hold3 b b0 b1 (by rw [g218b]; omega)
                rw [g218b] at hb3
                have fresh : ∀ y : Int, 0 < y → y < v 0 0 → m' 218 y < 0 → 0 ≤ m3 218 y → y ≠ b → m2 218 (parV v y) < 0 ∨ parV v y = b := fun y y0 y1 hy hy3 yb => (hnew3 y y0 y1 (by rw [g218 y yb]; exact hy) hy3).2.1
                have hP3 : PartT v m4 x m0 m3 := by
                  refine ⟨hI3, fun y y0 y1 hy => ?_, fun y y0 y1 hy hy3 => ?_⟩
                  · have h1 := hold y y0 y1 hy
                    have h2 := keep y y0 y1 (by rw [h1.1]; exact hy)
                    exact ⟨by rw [h2.1, h1.1], fun q => by rw [h2.2 q, h1.2 q]⟩
                  · by_cases old : 0 ≤ m' 218 y
                    · have h1 := hnew y y0 y1 hy old
                      have h2 := keep y (by omega) y1 old
                      have yx : y ≠ x := fun q => by rw [q] at hy; omega
                      refine ⟨by rw [h2.1, h2.2 yx]; exact h1.1, h1.2.1, fun c c0 c1 cp => ?_⟩
                      have := h1.2.2 c c0 c1 cp
                      rw [(keep c (by omega) c1 this).1]
                      exact this
                    · by_cases yb : y = b
                      · rw [yb]
                        exact ⟨by rw [h3b, hb3.1], Or.inr hbb.2.1, hch3⟩
                      · have h1 := hnew3 y y0 y1 (by rw [g218 y yb]; omega) hy3
                        refine ⟨h1.1, ?_, h1.2.2⟩
                        have py := par y y0 y1
                        rcases h1.2.1 with q | q
                        · left
                          refine Classical.byContradiction fun w => ?_
                          have h4 := (hold _ py.1.1 py.1.2 (by omega)).1
                          by_cases z : parV v y = b
                          · rw [z, g218b] at q; omega
                          · rw [g218 _ z] at q; omega
                        · left; rw [q]; exact unb
                have edn3 : dnV v x m3 = dnV v x m' + brV v b := by
                  have : dnV v x m3 = sm (fun c => (if (c ≠ 0 ∧ parV v c = x) ∧ 0 ≤ m' 218 c then brV v c else 0) + (if c = b then brV v b else 0)) (v 0 0) := sm_congr fun c c0 c1 => by
                    show (if (c ≠ 0 ∧ parV v c = x) ∧ 0 ≤ m3 218 c then brV v c else 0) = _
                    by_cases q : c = b
                    · rw [if_pos q, q, if_pos ⟨⟨hbb.1, hbb.2.1⟩, by rw [hb3.1]; omega⟩, if_neg (fun w => by omega), Int.zero_add]
                    · rw [if_neg q, Int.add_zero]
                      by_cases w : (c ≠ 0 ∧ parV v c = x) ∧ 0 ≤ m' 218 c
                      · rw [if_pos w, if_pos ⟨w.1, by rw [(keep c c0 c1 w.2).1]; exact w.2⟩]
                      · rw [if_neg w, if_neg (fun u => by
                          have hn : m' 218 c < 0 := Classical.byContradiction fun g => w ⟨u.1, by omega⟩
                          rcases fresh c (by omega) c1 hn u.2 q with g | g
                          · rw [u.1.2, g218 x (fun r => bx r.symm)] at g; omega
                          · rw [u.1.2] at g; exact bx g.symm)]
                  rw [this, sm_add (by omega), sm_one (by omega), if_pos ⟨b0, b1⟩]
                  rfl
                have hl3 : cnt (fun c => decide ((c ≠ 0 ∧ parV v c = x) ∧ m3 218 c < 0)) (v 0 0) < cnt (fun c => decide ((c ≠ 0 ∧ parV v c = x) ∧ m' 218 c < 0)) (v 0 0) := cnt_lt (x := b) (fun c c0 c1 q => by
                  have h1 := of_decide_eq_true q
                  refine decide_eq_true ⟨h1.1, Classical.byContradiction fun w => ?_⟩
                  have := (keep c c0 c1 (by omega)).1
                  omega) b0 b1 (decide_eq_false (fun q => by rw [hb3.1] at q; omega)) (decide_eq_true ⟨⟨hbb.1, hbb.2.1⟩, hbb.2.2⟩)
                have hl0 := cnt_bd (p := fun c => decide ((c ≠ 0 ∧ parV v c = x) ∧ m3 218 c < 0)) (n := v 0 0) (by omega)
                have nx := ihl (cnt (fun c => decide ((c ≠ 0 ∧ parV v c = x) ∧ m3 218 c < 0)) (v 0 0)).toNat (by omega) m3 (by omega) hP3
                rw [edn3] at nx
                rw [eup, if_neg (by omega), show now + lenV v b + 2 * bsV v b + lenV v b = t + 2 * (dnV v x m' + brV v b) by omega]
                exact nx
          have hk0 := cnt_bd (p := fun c => decide ((c ≠ 0 ∧ parV v c = x) ∧ m0 218 c < 0)) (n := v 0 0) (by omega)
          have z0 : dnV v x m0 = 0 := by
            have : dnV v x m0 = sm (fun _ => 0) (v 0 0) := sm_congr fun c c0 c1 => by
              show (if (c ≠ 0 ∧ parV v c = x) ∧ 0 ≤ m0 218 c then brV v c else 0) = 0
              rw [if_neg (fun q => by have := hch c (by omega) c1 q.1.2; omega)]
            rw [this, sm_zero (by omega)]
          have := inner (cnt (fun c => decide ((c ≠ 0 ∧ parV v c = x) ∧ m0 218 c < 0)) (v 0 0)).toNat m0 (by omega) ⟨hI, fun y _ _ _ => ⟨rfl, fun _ => rfl⟩, fun y _ _ h h' => absurd h (by omega)⟩
          rw [z0, show t + 2 * 0 = t by omega] at this
          exact this
      -- the marks
      have marks := up_ind (P := fun h => ∀ m' : Mem, (∀ z : Int, z ≠ 218 → z ≠ 219 → m' z = m4 z) → (∀ y : Int, 0 ≤ y → y < h → m' 218 y = -1 ∧ m' 219 y = 0) → V_X11_round R 24 [(0, kR 201), (2, kI a), (3, kI h)] m') (lo := 0) (hi := 8) ?_ ?_
      · exact marks 0 (by omega) (by omega) m4 (fun _ _ _ => rfl) (fun y y0 y1 => absurd y0 (by omega))
      · intro h h0 h1 ih m' hf hm
        refine vc_X11_round_24 ⟨rr (by omega), fun q => absurd q (by omega), fun _ => ⟨by omega, vc_X11_round_37 ⟨by omega, vc_X11_round_44 (ih _ (fun z z0 z1 => by rw [ru_ne z1, ru_ne z0, hf z z0 z1]) (fun y y0 y1 => ?_))⟩⟩⟩
        rw [ru_ne (show (218 : Int) ≠ 219 by omega), ru_eq, ru_eq]
        by_cases e : y = h
        · rw [e, r1_eq, r1_eq]; exact ⟨rfl, rfl⟩
        · rw [r1_ne e, r1_ne e, ru_ne (by omega)]; exact hm y y0 (by omega)
      · intro m' hf hm
        refine vc_X11_round_24 ⟨rr (by omega), fun _ => vc_X11_round_57 ?_, fun q => absurd (Int.le_refl _) q⟩
        obtain ⟨m0, em0⟩ : ∃ m0, m0 = updm m' 218 0 0 := ⟨_, rfl⟩
        rw [← em0]
        have e18 : ∀ y : Int, y ≠ 0 → m0 218 y = m' 218 y := fun y q => by rw [em0, ru_eq, r1_ne q]
        have e180 : m0 218 0 = 0 := by rw [em0, ru_eq, r1_eq]
        have bsb := bs_bd ok hj (p := 0) (by omega) (by omega)
        have neg : ∀ y : Int, 0 < y → y < v 0 0 → m0 218 y = -1 := fun y y0 y1 => by rw [e18 y (by omega)]; exact (hm y (by omega) (by omega)).1
        have hcn := cnt_bd (p := fun b => decide (wayV v 0 0 < wayV v 0 b)) (n := v 0 0) (by omega)
        refine sub 8 0 0 m0 (by omega) (by omega) ⟨fun z z0 z1 => by rw [em0, ru_ne z0, hf z z0 z1], fun y y0 y1 => ?_, fun y y0 y1 hy => absurd hy (by rw [neg y y0 y1]; omega)⟩ (by rw [e180]; omega) (fun c c0 c1 _ => by rw [neg c c0 c1]; omega) (by omega) (by omega) (fun m3 hp3 => ?_)
        · by_cases q : y = 0
          · rw [q, e180]; omega
          · rw [neg y (by omega) y1]; omega
        · obtain ⟨⟨hI3, hold3, hnew3⟩, hch3, h30⟩ := hp3
          obtain ⟨mb, ev, ak, e15⟩ := fr m3 hI3.1
          have all : ∀ y : Int, 0 ≤ y → y < v 0 0 → 0 ≤ m3 218 y := way_ind ok hj (by rw [(hold3 0 (by omega) (by omega) (by rw [e180]; omega)).1, e180]; omega) (fun y y0 y1 hy => by
            have py := par y y0 y1
            by_cases z : parV v y = 0
            · exact hch3 y y0 y1 z
            · exact (hnew3 _ (by omega) py.1.2 (by rw [neg _ (by omega) py.1.2]; omega) hy).2.2 y y0 y1 rfl)
          have ans : m3 219 a = m3 218 a + 2 * bsV v a := by
            by_cases z : a = 0
            · rw [z, h30, (hold3 0 (by omega) (by omega) (by rw [e180]; omega)).1, e180]
            · exact (hnew3 a (by omega) da.2 (by rw [neg a (by omega) da.2]; omega) (all a da.1 da.2)).1
          have eall : F_X11_allMinutes 201 m3 = bsV v 0 := by unfold F_X11_allMinutes; rw [ev]; exact all_bs vok ht
          have tw := tw_eq ok hj 8 a da.1 da.2 (by have := cnt7 ok da.1 da.2; omega)
          have up0 : upV v 0 = -1 := rfl
          rw [up0]
          refine vc_X11_round_62 ?_
          rw [eall]
          refine ⟨rr (by omega), fun _ => ⟨by omega, ⟨rfl, mb⟩, by omega, fin m3 _ ak ?_⟩, fun q => absurd (show (-1 : Int) < 0 by omega) q⟩
          omega
    · rw [if_neg (fun q => d (isPlace_1.mpr q.2))]
  · have e := q3 c
    subst e
    refine ⟨rr (by omega), fun _ => hR m _ ⟨ask, ?_⟩, fun q => absurd rfl q⟩
    by_cases c1 : 0 ≤ n ∧ n < μ 202 0
    · rw [onM_yes c1]
      unfold roundT
      rw [if_neg (fun q => c ⟨c1, q.1⟩)]
    · exact (onM_no c1).symm
theorem ct_X11_round : Ct mX11_round 3 64 0 0 (nrmS S_X11_round) := by
  refine ct_vm (own := RX11) (by decide +kernel) rfl ?_ ?_
  · intro as μ Q hS
    unfold S_X11_round at hS
    split at hS
    · exact Nat.le_of_ble_eq_true rfl
    · exact hS.elim
  · intro as μ R hS
    unfold S_X11_round at hS
    split at hS
    · exact body_X11_round hS.1 hS.2
    · exact hS.elim
