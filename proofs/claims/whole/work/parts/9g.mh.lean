/-! trees -/
theorem sm_eqp {f g : Int → Int} {n : Int} (hn : 0 ≤ n) (h : ∀ i, 0 ≤ i → i < n → f i ≤ g i) (e : sm g n ≤ sm f n) {i : Int} (i0 : 0 ≤ i) (i1 : i < n) : f i = g i := Classical.byContradiction fun q => by
  have hi := h i i0 i1
  have h1 := sm_le (f := fun j => f j + (if j = i then 1 else 0)) (g := g) (n := n) (fun j j0 j1 => by
    show f j + (if j = i then 1 else 0) ≤ g j
    by_cases c : j = i
    · rw [if_pos c, c]; omega
    · rw [if_neg c]
      have := h j j0 j1
      omega) hn
  rw [sm_add hn, sm_one hn, if_pos ⟨i0, i1⟩] at h1
  omega
theorem sm_c1 {n : Int} (hn : 0 ≤ n) : sm (fun _ => (1 : Int)) n = n := nat_ind (P := fun n => sm (fun _ => (1 : Int)) n = n) rfl (fun i i0 ih => by rw [sm_s i0, ih]) n hn
theorem sm_n0 {n : Int} (hn : 1 ≤ n) : sm (fun a => if a ≠ 0 then (1 : Int) else 0) n = n - 1 := by
  have e : sm (fun a => if a ≠ 0 then (1 : Int) else 0) n = sm (fun a => 1 + (if a = 0 then -1 else 0)) n := sm_congr fun a _ _ => by
    by_cases c : a = 0
    · rw [if_neg (fun q => q c), if_pos c]; rfl
    · rw [if_pos c, if_neg c]; rfl
  rw [e, sm_add (by omega), sm_c1 (by omega), sm_one (by omega), if_pos (by omega)]
  omega
/-- a lane leads to the father or from him -/
def edV (v : TV) (a b : Int) : Int := (if a ≠ 0 ∧ b = parV v a then 1 else 0) + (if b ≠ 0 ∧ a = parV v b then 1 else 0)
def isTr (v : TV) : Prop := v 1 0 = v 0 0 - 1
theorem edge_par {v : TV} (h : VOk v) (ht : isTr v) {a b : Int} (a0 : 0 ≤ a) (a1 : a < v 0 0) (b0 : 0 ≤ b) (b1 : b < v 0 0) : edV v a b = if v 7 (8 * a + b) = 0 then 0 else 1 := by
  have ok := h.1
  have hj := h.2.1
  have hp := ok.1
  have hl : 2 * v 1 0 = sm (lanesV v) (v 0 0) := h.2.2.2.2.2
  have ht' : v 1 0 = v 0 0 - 1 := ht
  have le : ∀ a b : Int, 0 ≤ a → a < v 0 0 → 0 ≤ b → b < v 0 0 → edV v a b ≤ if v 7 (8 * a + b) = 0 then 0 else 1 := fun a b a0 a1 b0 b1 => by
    unfold edV
    have hs := (ok.2.2.2.2.2.2.1 a b a0 (by omega) b0 (by omega)).1
    by_cases c1 : a ≠ 0 ∧ b = parV v a
    · have p1 := par_lt ok hj (show 0 < a by omega) a1
      rw [← c1.2] at p1
      rw [if_pos c1, if_neg (fun c2 => by
        have p2 := par_lt ok hj (show 0 < b by omega) b1
        rw [← c2.2] at p2
        omega), if_neg p1.1]
      omega
    · rw [if_neg c1]
      by_cases c2 : b ≠ 0 ∧ a = parV v b
      · have p2 := par_lt ok hj (show 0 < b by omega) b1
        rw [← c2.2] at p2
        rw [if_pos c2, if_neg (by rw [hs]; exact p2.1)]
        omega
      · rw [if_neg c2]
        split <;> omega
  have s1 : sm (fun a => sm (edV v a) (v 0 0)) (v 0 0) = 2 * (v 0 0 - 1) := by
    have e : ∀ a : Int, 0 ≤ a → a < v 0 0 → sm (edV v a) (v 0 0) = (if a ≠ 0 then 1 else 0) + sm (fun b => if b ≠ 0 ∧ a = parV v b then 1 else 0) (v 0 0) := fun a a0 a1 => by
      have pi := par_in ok a
      have : sm (edV v a) (v 0 0) = sm (fun b => (if b = parV v a then (if a ≠ 0 then 1 else 0) else 0) + (if b ≠ 0 ∧ a = parV v b then 1 else 0)) (v 0 0) := sm_congr fun b _ _ => by
        unfold edV
        by_cases c : b = parV v a
        · rw [if_pos c]
          by_cases d : a ≠ 0
          · rw [if_pos d, if_pos ⟨d, c⟩]
          · rw [if_neg d, if_neg (fun q => d q.1)]
        · rw [if_neg c, if_neg (fun q => c q.2)]
      rw [this, sm_add (by omega), sm_one (by omega), if_pos pi]
    have e2 : ∀ b : Int, 0 ≤ b → b < v 0 0 → sm (fun a => if b ≠ 0 ∧ a = parV v b then (1 : Int) else 0) (v 0 0) = if b ≠ 0 then 1 else 0 := fun b b0 b1 => by
      have pi := par_in ok b
      have : sm (fun a => if b ≠ 0 ∧ a = parV v b then (1 : Int) else 0) (v 0 0) = sm (fun a => if a = parV v b then (if b ≠ 0 then 1 else 0) else 0) (v 0 0) := sm_congr fun a _ _ => by
        by_cases c : a = parV v b
        · rw [if_pos c]
          by_cases d : b ≠ 0
          · rw [if_pos d, if_pos ⟨d, c⟩]
          · rw [if_neg d, if_neg (fun q => d q.1)]
        · rw [if_neg c, if_neg (fun q => c q.2)]
      rw [this, sm_one (by omega), if_pos pi]
    rw [sm_congr e, sm_add (by omega), sm_n0 (by omega), sm_swap (f := fun a b => if b ≠ 0 ∧ a = parV v b then (1 : Int) else 0) (by omega) (by omega), sm_congr e2, sm_n0 (by omega)]
    omega
  have row : ∀ a : Int, 0 ≤ a → a < v 0 0 → sm (edV v a) (v 0 0) ≤ lanesV v a := fun a a0 a1 => sm_le (fun b b0 b1 => le a b a0 a1 b0 b1) (by omega)
  have er := sm_eqp (f := fun a => sm (edV v a) (v 0 0)) (g := lanesV v) (by omega) row (by rw [s1]; omega) a0 a1
  exact sm_eqp (f := edV v a) (g := fun b => if v 7 (8 * a + b) = 0 then 0 else 1) (by omega) (fun b b0 b1 => le a b a0 a1 b0 b1) (Int.le_of_eq er.symm) b0 b1
theorem len_lane {v : TV} (h : VOk v) (ht : isTr v) {a : Int} (a0 : 0 < a) (a1 : a < v 0 0) : v 7 (8 * a + parV v a) = lenV v a := by
  have ok := h.1
  have hj := h.2.1
  have hp := ok.1
  obtain ⟨b, hb, hba, hl, he⟩ := way_last ok hj (show (0 : Int) ≤ 0 by omega) (by omega) (show 0 ≤ a by omega) a1 (by omega)
  have ed := edge_par h ht hb.1 hb.2 (show 0 ≤ a by omega) a1
  rw [if_neg (by omega)] at ed
  have e : b = parV v a := by
    unfold edV at ed
    by_cases c : b ≠ 0 ∧ a = parV v b
    · have := par_lt ok hj (show 0 < b by omega) hb.2
      rw [← c.2] at this
      omega
    · rw [if_neg c] at ed
      by_cases d : a ≠ 0 ∧ b = parV v a
      · exact d.2
      · rw [if_neg d] at ed; omega
  have hs := (ok.2.2.2.2.2.2.1 b a hb.1 (by omega) (by omega) (by omega)).1
  unfold lenV
  rw [e] at he hs
  omega
/-- the children -/
theorem lanes_ch {v : TV} (h : VOk v) (ht : isTr v) {a : Int} (a0 : 0 ≤ a) (a1 : a < v 0 0) : lanesV v a = (if a ≠ 0 then 1 else 0) + sm (fun b => if b ≠ 0 ∧ parV v b = a then 1 else 0) (v 0 0) := by
  have ok := h.1
  have hp := ok.1
  have pi := par_in ok a
  have e : lanesV v a = sm (fun b => (if b = parV v a then (if a ≠ 0 then 1 else 0) else 0) + (if b ≠ 0 ∧ parV v b = a then 1 else 0)) (v 0 0) := by
    unfold lanesV
    refine sm_congr fun b b0 b1 => ?_
    rw [← edge_par h ht a0 a1 b0 b1]
    unfold edV
    have x : (if b ≠ 0 ∧ a = parV v b then (1 : Int) else 0) = if b ≠ 0 ∧ parV v b = a then 1 else 0 := by
      by_cases c : b ≠ 0 ∧ a = parV v b
      · rw [if_pos c, if_pos ⟨c.1, c.2.symm⟩]
      · rw [if_neg c, if_neg (fun q => c ⟨q.1, q.2.symm⟩)]
    rw [x]
    by_cases c : b = parV v a
    · rw [if_pos c]
      by_cases d : a ≠ 0
      · rw [if_pos d, if_pos ⟨d, c⟩]
      · rw [if_neg d, if_neg (fun q => d q.1)]
    · rw [if_neg c, if_neg (fun q => c q.2)]
  rw [e, sm_add (by omega), sm_one (by omega), if_pos pi]
theorem leaf_bs {v : TV} (h : VOk v) (ht : isTr v) {a : Int} (a0 : 0 < a) (a1 : a < v 0 0) : lanesV v a = 1 ↔ bsV v a ≤ 0 := by
  have ok := h.1
  have hj := h.2.1
  have hp := ok.1
  have lc := lanes_ch h ht (show 0 ≤ a by omega) a1
  rw [if_pos (by omega)] at lc
  have h1 : sm (fun b => if b ≠ 0 ∧ parV v b = a then 1 else 0) (v 0 0) ≤ bsV v a := sm_le (fun b b0 b1 => by
    by_cases c : b ≠ 0 ∧ parV v b = a
    · rw [if_pos c, if_pos c]
      exact br_pos ok hj (by omega) b1
    · rw [if_neg c, if_neg c]; omega) (by omega)
  have h2 : bsV v a ≤ sm (fun b => (if b ≠ 0 ∧ parV v b = a then 1 else 0) * 160) (v 0 0) := sm_le (fun b b0 b1 => by
    show (if b ≠ 0 ∧ parV v b = a then brV v b else 0) ≤ (if b ≠ 0 ∧ parV v b = a then 1 else 0) * 160
    by_cases c : b ≠ 0 ∧ parV v b = a
    · rw [if_pos c, if_pos c]
      have := br_bd ok hj (p := b)
      omega
    · rw [if_neg c, if_neg c]; omega) (by omega)
  rw [sm_mul (by omega)] at h2
  have h3 := sm_nn (f := fun b => if b ≠ 0 ∧ parV v b = a then (1 : Int) else 0) (n := v 0 0) (fun b _ _ => by
    show 0 ≤ (if b ≠ 0 ∧ parV v b = a then (1 : Int) else 0)
    split <;> omega) (by omega)
  constructor
  · intro q; omega
  · intro q; omega
theorem par_0 {v : TV} (ok : TVok v) (hj : joined v) : parV v 0 = 0 := by
  have hp := ok.1
  unfold parV
  rw [frst_none (by omega) (fun b b0 b1 => decide_eq_false (fun q => by
    have w0 := (way_net ok 0 0 (by omega) (by omega) (by omega) (by omega)).2
    have wb := way_bd ok hj (a := 0) (b := b) (by omega) (by omega) b0 b1
    have := q.2
    have e := w0
    omega))]
  rfl
/-- by the way from the start -/
theorem way_ind {v : TV} (ok : TVok v) (hj : joined v) {P : Int → Prop} (h0 : P 0) (hs : ∀ a : Int, 0 < a → a < v 0 0 → P (parV v a) → P a) : ∀ a : Int, 0 ≤ a → a < v 0 0 → P a := by
  have key : ∀ (k : Nat) (a : Int), 0 ≤ a → a < v 0 0 → wayV v 0 a ≤ k → P a := by
    intro k
    induction k with
    | zero =>
      intro a a0 a1 hw
      by_cases c : a = 0
      · rw [c]; exact h0
      · have := par_lt ok hj (show 0 < a by omega) a1
        have pi := par_in ok a
        have := way_bd ok hj (a := 0) (b := parV v a) (by omega) (by omega) pi.1 pi.2
        omega
    | succ k ih =>
      intro a a0 a1 hw
      by_cases c : a = 0
      · rw [c]; exact h0
      · have := par_lt ok hj (show 0 < a by omega) a1
        have pi := par_in ok a
        exact hs a (by omega) a1 (ih _ pi.1 pi.2 (by omega))
  intro a a0 a1
  have hp := ok.1
  have := way_bd ok hj (a := 0) (b := a) (by omega) (by omega) a0 a1
  exact key (wayV v 0 a).toNat a a0 a1 (by omega)
theorem cnt_add {p q : Int → Bool} {n x : Int} (hn : 0 ≤ n) (x0 : 0 ≤ x) (x1 : x < n) (hp : p x = false) (hq : q x = true) (h : ∀ i, 0 ≤ i → i < n → i ≠ x → q i = p i) : cnt q n = cnt p n + 1 := by
  have e : cnt q n = sm (fun i => (if p i then 1 else 0) + (if i = x then 1 else 0)) n := by
    unfold cnt
    refine sm_congr fun i i0 i1 => ?_
    by_cases c : i = x
    · rw [if_pos c, c, hp, hq]; rfl
    · rw [if_neg c, h i i0 i1 c]; omega
  rw [e, sm_add hn, sm_one hn, if_pos ⟨x0, x1⟩]
  rfl
theorem cnt_eq {p q : Int → Bool} {n : Int} (h : ∀ i, 0 ≤ i → i < n → q i = p i) : cnt q n = cnt p n := by
  unfold cnt
  exact sm_congr fun i i0 i1 => by rw [h i i0 i1]
theorem cnt_all {p : Int → Bool} {n : Int} (hn : 0 ≤ n) (h : ∀ i, 0 ≤ i → i < n → p i = true) : cnt p n = n := by
  unfold cnt
  have : sm (fun i => if p i then (1 : Int) else 0) n = sm (fun _ => (1 : Int)) n := sm_congr fun i i0 i1 => by rw [h i i0 i1]; rfl
  rw [this, sm_c1 hn]
/-- what stands of a tree in the model -/
def TrM (v : TV) (μ : Mem) : Prop := μ 215 0 = -1 ∧ ∀ a : Int, 0 < a → a < v 0 0 → μ 215 a = parV v a ∧ μ 216 a = brV v a
def P_X11_grows (o : Int) (μ : Mem) : Prop := o = 201 ∧ MB μ ∧ isTr (vm μ)
def Q_X11_grows (_ : Int) (μ μ' : Mem) : Prop := TrM (vm μ) μ' ∧ ∀ z : Int, z ≠ 215 → z ≠ 216 → z ≠ 217 → μ' z = μ z
def S_X11_grows : S0t := fun as μ Q => match as with
  | [(2, x0)] => P_X11_grows x0 μ ∧ ∀ (μ' : Mem) , Q_X11_grows x0 μ μ'  → Q μ' none
  | _ => False
theorem mono_X11_grows : Mono S_X11_grows := by
  intro as μ Q Q' h hS
  unfold S_X11_grows at hS ⊢
  split at hS
  · exact ⟨hS.1, fun μ' q => h _ _ (hS.2 _ q)⟩
  · exact hS.elim
def iX11_grows : Inf := (kX11_grows, fTX11, pTX11, cTX11, lTX11, sTX11, [(209, 0, 1, 11, S_X11_of)])
theorem ok_X11_grows : infOK iX11_grows mX11_grows RX11 1 21 := ⟨kkX11_grows, fTX11_ok, pTX11_ok _, cTX11_ok, lTX11_ok, sTX11_ok, c_cons ⟨mX11_of, 0, 0, ct_X11_of, mmX11_of, vvX11_of, lkX11_209, ⟨by decide, by decide⟩, ⟨_, _, rfl⟩, by decide, mono_X11_of⟩ (c_nil)⟩
theorem mt_X11_grows : mtOK [] RX11 1 21 := mt_nil
abbrev V_X11_grows (R : Mem → Option AV → Prop) (pc : Nat) (lc : List (Nat × AV)) (μ : Mem) : Prop := VM mX11_grows RX11 1 21 R pc lc [] μ
set_option maxRecDepth 20000 in
theorem vc_X11_grows_0 {R : Mem → Option AV → Prop} {μ : Mem} (H : V_X11_grows R 9 [(0, kR 201), (1, kI 1)] (updm μ 217 0 0)) : V_X11_grows R 0 [(0, kR 201)] μ := by
  refine vm_step2 mt_X11_grows ok_X11_grows [(9, [0, 1]), (16, [0, 1]), (18, [0, 1, 2]), (33, [0, 1, 2, 3, 4]), (81, [0, 1, 2, 3, 4]), (89, [0, 1, 2, 3, 4]), (106, [0, 2]), (146, [0, 2]), (159, [0, 2]), (199, [0, 2])] 1000 ?_
  show isC 201 11 ∧ inA 217 0 (0 : Int) ∧ V_X11_grows R 9 [(0, kR 201), (1, kI 1)] (updm μ 217 0 0)
  exact ⟨c_201, ⟨isArr.in a_217 (by omega) (by omega), H⟩⟩
set_option maxRecDepth 20000 in
theorem vc_X11_grows_9 {R : Mem → Option AV → Prop} {n : Int} {μ : Mem} (H : V_X11_grows R 16 [(0, kR 201), (1, kI n)] (updm μ 215 0 (-1))) : V_X11_grows R 9 [(0, kR 201), (1, kI n)] μ := by
  refine vm_step2 mt_X11_grows ok_X11_grows [(9, [0, 1]), (16, [0, 1]), (18, [0, 1, 2]), (33, [0, 1, 2, 3, 4]), (81, [0, 1, 2, 3, 4]), (89, [0, 1, 2, 3, 4]), (106, [0, 2]), (146, [0, 2]), (159, [0, 2]), (199, [0, 2])] 1000 ?_
  show isC 201 11 ∧ inA 215 0 (0 : Int) ∧ V_X11_grows R 16 [(0, kR 201), (1, kI n)] (updm μ 215 0 (-1))
  exact ⟨c_201, ⟨isArr.in a_215 (by omega) (by omega), H⟩⟩
set_option maxRecDepth 20000 in
theorem vc_X11_grows_16 {R : Mem → Option AV → Prop} {n : Int} {μ : Mem} (H : V_X11_grows R 18 [(0, kR 201), (1, kI n), (2, kI 0)] μ) : V_X11_grows R 16 [(0, kR 201), (1, kI n)] μ := by
  refine vm_step2 mt_X11_grows ok_X11_grows [(9, [0, 1]), (16, [0, 1]), (18, [0, 1, 2]), (33, [0, 1, 2, 3, 4]), (81, [0, 1, 2, 3, 4]), (89, [0, 1, 2, 3, 4]), (106, [0, 2]), (146, [0, 2]), (159, [0, 2]), (199, [0, 2])] 1000 ?_
  show V_X11_grows R 18 [(0, kR 201), (1, kI n), (2, kI 0)] μ
  exact H
set_option maxRecDepth 20000 in
theorem vc_X11_grows_18 {R : Mem → Option AV → Prop} {n i : Int} {μ : Mem} (H : r32 i ∧ r32 n ∧ ((n ≤ i) → V_X11_grows R 106 [(0, kR 201), (2, kI 0)] μ) ∧ (¬ (n ≤ i) → (0 ≤ i ∧ i < 8) ∧ V_X11_grows R 33 [(0, kR 201), (1, kI n), (2, kI i), (3, kI (μ 217 i)), (4, kI 0)] μ)) : V_X11_grows R 18 [(0, kR 201), (1, kI n), (2, kI i)] μ := by
  refine vm_step2 mt_X11_grows ok_X11_grows [(9, [0, 1]), (16, [0, 1]), (18, [0, 1, 2]), (33, [0, 1, 2, 3, 4]), (81, [0, 1, 2, 3, 4]), (89, [0, 1, 2, 3, 4]), (106, [0, 2]), (146, [0, 2]), (159, [0, 2]), (199, [0, 2])] 1000 ?_
  show (r32 i ∧ r32 n) ∧ ((n ≤ i) → V_X11_grows R 106 [(0, kR 201), (2, kI 0)] μ) ∧ (¬ (n ≤ i) → isC 201 11 ∧ inA 217 0 i ∧ V_X11_grows R 33 [(0, kR 201), (1, kI n), (2, kI i), (3, kI (μ 217 i)), (4, kI 0)] μ)
  exact ⟨⟨H.1, H.2.1⟩, fun hc1 => (H.2.2.1 hc1), fun hc1 => ⟨c_201, ⟨isArr.in a_217 (H.2.2.2 hc1).1.1 (H.2.2.2 hc1).1.2, (H.2.2.2 hc1).2⟩⟩⟩
set_option maxRecDepth 20000 in
theorem vc_X11_grows_33 {R : Mem → Option AV → Prop} {n i a b : Int} {μ : Mem} (H : r32 b ∧ r32 (μ 201 13) ∧ (((μ 201 13) ≤ b) → V_X11_grows R 18 [(0, kR 201), (1, kI n), (2, kI (i + 1))] μ) ∧ (¬ ((μ 201 13) ≤ b) → P_X11_of 201 ((40 + (8 * a)) + b) μ ∧ r32 (F_X11_of 201 ((40 + (8 * a)) + b) μ) ∧ (((F_X11_of 201 ((40 + (8 * a)) + b) μ) = 0) → V_X11_grows R 33 [(0, kR 201), (1, kI n), (2, kI i), (3, kI a), (4, kI (b + 1))] μ) ∧ (¬ ((F_X11_of 201 ((40 + (8 * a)) + b) μ) = 0) → (0 ≤ a ∧ a < 8) ∧ r32 b ∧ r32 (μ 215 a) ∧ ((¬ b = (μ 215 a)) → (0 ≤ b ∧ b < 8) ∧ V_X11_grows R 81 [(0, kR 201), (1, kI n), (2, kI i), (3, kI a), (4, kI b)] (updm μ 215 b a)) ∧ (¬ (¬ b = (μ 215 a)) → V_X11_grows R 33 [(0, kR 201), (1, kI n), (2, kI i), (3, kI a), (4, kI (b + 1))] μ)))) : V_X11_grows R 33 [(0, kR 201), (1, kI n), (2, kI i), (3, kI a), (4, kI b)] μ := by
  refine vm_step2 mt_X11_grows ok_X11_grows [(9, [0, 1]), (16, [0, 1]), (18, [0, 1, 2]), (33, [0, 1, 2, 3, 4]), (81, [0, 1, 2, 3, 4]), (89, [0, 1, 2, 3, 4]), (106, [0, 2]), (146, [0, 2]), (159, [0, 2]), (199, [0, 2])] 1000 ?_
  show isC 201 11 ∧ (r32 b ∧ r32 (μ 201 13)) ∧ (((μ 201 13) ≤ b) → V_X11_grows R 18 [(0, kR 201), (1, kI n), (2, kI (i + 1))] μ) ∧ (¬ ((μ 201 13) ≤ b) → isC 201 11 ∧ P_X11_of 201 ((40 + (8 * a)) + b) μ ∧ r32 (F_X11_of 201 ((40 + (8 * a)) + b) μ) ∧ (((F_X11_of 201 ((40 + (8 * a)) + b) μ) = 0) → V_X11_grows R 33 [(0, kR 201), (1, kI n), (2, kI i), (3, kI a), (4, kI (b + 1))] μ) ∧ (¬ ((F_X11_of 201 ((40 + (8 * a)) + b) μ) = 0) → isC 201 11 ∧ inA 215 0 a ∧ (r32 b ∧ r32 (μ 215 a)) ∧ ((¬ b = (μ 215 a)) → isC 201 11 ∧ inA 215 0 b ∧ V_X11_grows R 81 [(0, kR 201), (1, kI n), (2, kI i), (3, kI a), (4, kI b)] (updm μ 215 b a)) ∧ (¬ (¬ b = (μ 215 a)) → V_X11_grows R 33 [(0, kR 201), (1, kI n), (2, kI i), (3, kI a), (4, kI (b + 1))] μ)))
  exact ⟨c_201, ⟨⟨H.1, H.2.1⟩, fun hc4 => (H.2.2.1 hc4), fun hc4 => ⟨c_201, (H.2.2.2 hc4).1, ⟨(H.2.2.2 hc4).2.1, fun hc3 => ((H.2.2.2 hc4).2.2.1 hc3), fun hc3 => ⟨c_201, ⟨isArr.in a_215 ((H.2.2.2 hc4).2.2.2 hc3).1.1 ((H.2.2.2 hc4).2.2.2 hc3).1.2, ⟨⟨((H.2.2.2 hc4).2.2.2 hc3).2.1, ((H.2.2.2 hc4).2.2.2 hc3).2.2.1⟩, fun hc2 => ⟨c_201, ⟨isArr.in a_215 (((H.2.2.2 hc4).2.2.2 hc3).2.2.2.1 hc2).1.1 (((H.2.2.2 hc4).2.2.2 hc3).2.2.2.1 hc2).1.2, (((H.2.2.2 hc4).2.2.2 hc3).2.2.2.1 hc2).2⟩⟩, fun hc2 => (((H.2.2.2 hc4).2.2.2 hc3).2.2.2.2 hc2)⟩⟩⟩⟩⟩⟩⟩
set_option maxRecDepth 20000 in
theorem vc_X11_grows_81 {R : Mem → Option AV → Prop} {n i a b : Int} {μ : Mem} (H : (0 ≤ n ∧ n < 8) ∧ V_X11_grows R 89 [(0, kR 201), (1, kI n), (2, kI i), (3, kI a), (4, kI b)] (updm μ 217 n b)) : V_X11_grows R 81 [(0, kR 201), (1, kI n), (2, kI i), (3, kI a), (4, kI b)] μ := by
  refine vm_step2 mt_X11_grows ok_X11_grows [(9, [0, 1]), (16, [0, 1]), (18, [0, 1, 2]), (33, [0, 1, 2, 3, 4]), (81, [0, 1, 2, 3, 4]), (89, [0, 1, 2, 3, 4]), (106, [0, 2]), (146, [0, 2]), (159, [0, 2]), (199, [0, 2])] 1000 ?_
  show isC 201 11 ∧ inA 217 0 n ∧ V_X11_grows R 89 [(0, kR 201), (1, kI n), (2, kI i), (3, kI a), (4, kI b)] (updm μ 217 n b)
  exact ⟨c_201, ⟨isArr.in a_217 H.1.1 H.1.2, H.2⟩⟩
set_option maxRecDepth 20000 in
theorem vc_X11_grows_89 {R : Mem → Option AV → Prop} {n i a b : Int} {μ : Mem} (H : V_X11_grows R 33 [(0, kR 201), (1, kI (n + 1)), (2, kI i), (3, kI a), (4, kI (b + 1))] μ) : V_X11_grows R 89 [(0, kR 201), (1, kI n), (2, kI i), (3, kI a), (4, kI b)] μ := by
  refine vm_step2 mt_X11_grows ok_X11_grows [(9, [0, 1]), (16, [0, 1]), (18, [0, 1, 2]), (33, [0, 1, 2, 3, 4]), (81, [0, 1, 2, 3, 4]), (89, [0, 1, 2, 3, 4]), (106, [0, 2]), (146, [0, 2]), (159, [0, 2]), (199, [0, 2])] 1000 ?_
  show V_X11_grows R 33 [(0, kR 201), (1, kI (n + 1)), (2, kI i), (3, kI a), (4, kI (b + 1))] μ
  exact H
set_option maxRecDepth 20000 in
theorem vc_X11_grows_106 {R : Mem → Option AV → Prop} {i : Int} {μ : Mem} (H : r32 i ∧ r32 (μ 201 13) ∧ (((μ 201 13) ≤ i) → V_X11_grows R 159 [(0, kR 201), (2, kI ((μ 201 13) - 1))] μ) ∧ (¬ ((μ 201 13) ≤ i) → r32 i ∧ ((¬ i = 0) → (0 ≤ i ∧ i < 8) ∧ P_X11_of 201 ((40 + (8 * i)) + (μ 215 i)) μ ∧ (0 ≤ i ∧ i < 8) ∧ V_X11_grows R 146 [(0, kR 201), (2, kI i)] (updm μ 216 i (F_X11_of 201 ((40 + (8 * i)) + (μ 215 i)) μ))) ∧ (¬ (¬ i = 0) → (0 ≤ i ∧ i < 8) ∧ V_X11_grows R 146 [(0, kR 201), (2, kI i)] (updm μ 216 i 0)))) : V_X11_grows R 106 [(0, kR 201), (2, kI i)] μ := by
  refine vm_step2 mt_X11_grows ok_X11_grows [(9, [0, 1]), (16, [0, 1]), (18, [0, 1, 2]), (33, [0, 1, 2, 3, 4]), (81, [0, 1, 2, 3, 4]), (89, [0, 1, 2, 3, 4]), (106, [0, 2]), (146, [0, 2]), (159, [0, 2]), (199, [0, 2])] 1000 ?_
  show isC 201 11 ∧ (r32 i ∧ r32 (μ 201 13)) ∧ (((μ 201 13) ≤ i) → isC 201 11 ∧ V_X11_grows R 159 [(0, kR 201), (2, kI ((μ 201 13) - 1))] μ) ∧ (¬ ((μ 201 13) ≤ i) → isC 201 11 ∧ r32 i ∧ ((¬ i = 0) → isC 201 11 ∧ inA 215 0 i ∧ isC 201 11 ∧ P_X11_of 201 ((40 + (8 * i)) + (μ 215 i)) μ ∧ inA 216 0 i ∧ V_X11_grows R 146 [(0, kR 201), (2, kI i)] (updm μ 216 i (F_X11_of 201 ((40 + (8 * i)) + (μ 215 i)) μ))) ∧ (¬ (¬ i = 0) → inA 216 0 i ∧ V_X11_grows R 146 [(0, kR 201), (2, kI i)] (updm μ 216 i 0)))
  exact ⟨c_201, ⟨⟨H.1, H.2.1⟩, fun hc6 => ⟨c_201, (H.2.2.1 hc6)⟩, fun hc6 => ⟨c_201, ⟨(H.2.2.2 hc6).1, fun hc5 => ⟨c_201, ⟨isArr.in a_215 ((H.2.2.2 hc6).2.1 hc5).1.1 ((H.2.2.2 hc6).2.1 hc5).1.2, ⟨c_201, ((H.2.2.2 hc6).2.1 hc5).2.1, ⟨isArr.in a_216 ((H.2.2.2 hc6).2.1 hc5).2.2.1.1 ((H.2.2.2 hc6).2.1 hc5).2.2.1.2, ((H.2.2.2 hc6).2.1 hc5).2.2.2⟩⟩⟩⟩, fun hc5 => ⟨isArr.in a_216 ((H.2.2.2 hc6).2.2 hc5).1.1 ((H.2.2.2 hc6).2.2 hc5).1.2, ((H.2.2.2 hc6).2.2 hc5).2⟩⟩⟩⟩⟩
set_option maxRecDepth 20000 in
theorem vc_X11_grows_146 {R : Mem → Option AV → Prop} {i : Int} {μ : Mem} (H : V_X11_grows R 106 [(0, kR 201), (2, kI (i + 1))] μ) : V_X11_grows R 146 [(0, kR 201), (2, kI i)] μ := by
  refine vm_step2 mt_X11_grows ok_X11_grows [(9, [0, 1]), (16, [0, 1]), (18, [0, 1, 2]), (33, [0, 1, 2, 3, 4]), (81, [0, 1, 2, 3, 4]), (89, [0, 1, 2, 3, 4]), (106, [0, 2]), (146, [0, 2]), (159, [0, 2]), (199, [0, 2])] 1000 ?_
  show V_X11_grows R 106 [(0, kR 201), (2, kI (i + 1))] μ
  exact H
set_option maxRecDepth 20000 in
theorem vc_X11_grows_159 {R : Mem → Option AV → Prop} {i : Int} {μ : Mem} (H : r32 i ∧ ((i ≤ 0) → R μ none) ∧ (¬ (i ≤ 0) → (0 ≤ i ∧ i < 8) ∧ (0 ≤ (μ 217 i) ∧ (μ 217 i) < 8) ∧ r32 (μ 215 (μ 217 i)) ∧ (((μ 215 (μ 217 i)) ≤ 0) → V_X11_grows R 199 [(0, kR 201), (2, kI i)] μ) ∧ (¬ ((μ 215 (μ 217 i)) ≤ 0) → (0 ≤ (μ 217 i) ∧ (μ 217 i) < 8) ∧ (0 ≤ (μ 215 (μ 217 i)) ∧ (μ 215 (μ 217 i)) < 8) ∧ (0 ≤ (μ 217 i) ∧ (μ 217 i) < 8) ∧ (0 ≤ (μ 215 (μ 217 i)) ∧ (μ 215 (μ 217 i)) < 8) ∧ V_X11_grows R 199 [(0, kR 201), (2, kI i)] (updm μ 216 (μ 215 (μ 217 i)) ((μ 216 (μ 215 (μ 217 i))) + (μ 216 (μ 217 i))))))) : V_X11_grows R 159 [(0, kR 201), (2, kI i)] μ := by
  refine vm_step2 mt_X11_grows ok_X11_grows [(9, [0, 1]), (16, [0, 1]), (18, [0, 1, 2]), (33, [0, 1, 2, 3, 4]), (81, [0, 1, 2, 3, 4]), (89, [0, 1, 2, 3, 4]), (106, [0, 2]), (146, [0, 2]), (159, [0, 2]), (199, [0, 2])] 1000 ?_
  show r32 i ∧ ((i ≤ 0) → R μ none) ∧ (¬ (i ≤ 0) → isC 201 11 ∧ inA 217 0 i ∧ isC 201 11 ∧ inA 215 0 (μ 217 i) ∧ r32 (μ 215 (μ 217 i)) ∧ (((μ 215 (μ 217 i)) ≤ 0) → V_X11_grows R 199 [(0, kR 201), (2, kI i)] μ) ∧ (¬ ((μ 215 (μ 217 i)) ≤ 0) → isC 201 11 ∧ isC 201 11 ∧ inA 215 0 (μ 217 i) ∧ inA 216 0 (μ 215 (μ 217 i)) ∧ isC 201 11 ∧ inA 216 0 (μ 217 i) ∧ inA 216 0 (μ 215 (μ 217 i)) ∧ V_X11_grows R 199 [(0, kR 201), (2, kI i)] (updm μ 216 (μ 215 (μ 217 i)) ((μ 216 (μ 215 (μ 217 i))) + (μ 216 (μ 217 i))))))
  exact ⟨H.1, fun hc8 => (H.2.1 hc8), fun hc8 => ⟨c_201, ⟨isArr.in a_217 (H.2.2 hc8).1.1 (H.2.2 hc8).1.2, ⟨c_201, ⟨isArr.in a_215 (H.2.2 hc8).2.1.1 (H.2.2 hc8).2.1.2, ⟨(H.2.2 hc8).2.2.1, fun hc7 => ((H.2.2 hc8).2.2.2.1 hc7), fun hc7 => ⟨c_201, ⟨c_201, ⟨isArr.in a_215 ((H.2.2 hc8).2.2.2.2 hc7).1.1 ((H.2.2 hc8).2.2.2.2 hc7).1.2, ⟨isArr.in a_216 ((H.2.2 hc8).2.2.2.2 hc7).2.1.1 ((H.2.2 hc8).2.2.2.2 hc7).2.1.2, ⟨c_201, ⟨isArr.in a_216 ((H.2.2 hc8).2.2.2.2 hc7).2.2.1.1 ((H.2.2 hc8).2.2.2.2 hc7).2.2.1.2, ⟨isArr.in a_216 ((H.2.2 hc8).2.2.2.2 hc7).2.2.2.1.1 ((H.2.2 hc8).2.2.2.2 hc7).2.2.2.1.2, ((H.2.2 hc8).2.2.2.2 hc7).2.2.2.2⟩⟩⟩⟩⟩⟩⟩⟩⟩⟩⟩⟩⟩
set_option maxRecDepth 20000 in
theorem vc_X11_grows_199 {R : Mem → Option AV → Prop} {i : Int} {μ : Mem} (H : V_X11_grows R 159 [(0, kR 201), (2, kI (i + (-1)))] μ) : V_X11_grows R 199 [(0, kR 201), (2, kI i)] μ := by
  refine vm_step2 mt_X11_grows ok_X11_grows [(9, [0, 1]), (16, [0, 1]), (18, [0, 1, 2]), (33, [0, 1, 2, 3, 4]), (81, [0, 1, 2, 3, 4]), (89, [0, 1, 2, 3, 4]), (106, [0, 2]), (146, [0, 2]), (159, [0, 2]), (199, [0, 2])] 1000 ?_
  show V_X11_grows R 159 [(0, kR 201), (2, kI (i + (-1)))] μ
  exact H
/-- what is held while a tree grows: M are the places listed, D those whose children are -/
def BF (v : TV) (M D : Int → Bool) (n i : Int) (m : Mem) : Prop := n = cnt M (v 0 0) ∧ M 0 = true ∧ (∀ j : Int, 0 ≤ j → j < n → (0 ≤ m 217 j ∧ m 217 j < v 0 0) ∧ M (m 217 j) = true) ∧ (∀ j k : Int, 0 ≤ j → j < k → k < n → m 217 j ≠ m 217 k) ∧
  (∀ x : Int, 0 ≤ x → x < v 0 0 → M x = true → ∃ j : Int, (0 ≤ j ∧ j < n) ∧ m 217 j = x) ∧ (∀ x : Int, D x = true ↔ ∃ j : Int, (0 ≤ j ∧ j < i) ∧ m 217 j = x) ∧
  (∀ x : Int, 0 < x → x < v 0 0 → M x = true → m 215 x = parV v x ∧ ∃ j k : Int, 0 ≤ j ∧ j < k ∧ k < n ∧ m 217 k = x ∧ m 217 j = parV v x) ∧ m 215 0 = -1 ∧ m 217 0 = 0
def mbB (v : TV) (D : Int → Bool) (x : Int) : Bool := decide (x = 0) || D (parV v x)
def mcB (v : TV) (D : Int → Bool) (a b x : Int) : Bool := decide (x = 0) || (D (parV v x) || (decide (parV v x = a) && decide (x < b)))
theorem BF_congr {v : TV} {M M' D : Int → Bool} {n i : Int} {m : Mem} (hp : 0 < v 0 0) (h : BF v M D n i m) (e : ∀ x : Int, 0 ≤ x → x < v 0 0 → M' x = M x) : BF v M' D n i m := by
  obtain ⟨h1, h2, h3, h4, h5, h6, h7, h8⟩ := h
  refine ⟨by rw [h1]; exact (cnt_eq e).symm, by rw [e 0 (by omega) hp]; exact h2, fun j j0 j1 => ?_, h4, fun x x0 x1 hx => h5 x x0 x1 (by rw [← e x x0 x1]; exact hx), h6, fun x x0 x1 hx => h7 x x0 x1 (by rw [← e x (by omega) x1]; exact hx), h8⟩
  have := h3 j j0 j1
  exact ⟨this.1, by rw [e _ this.1.1 this.1.2]; exact this.2⟩
theorem body_X11_grows {o : Int} {μ : Mem} {R : Mem → Option AV → Prop} (h : P_X11_grows o μ) (hR : ∀ μ' : Mem, Q_X11_grows o μ μ' → R μ' none) : V_X11_grows R 0 [(0, kR o)] μ := by
  obtain ⟨rfl, hb, ht⟩ := h
  have ok := hb.v
  have vok : VOk (vm μ) := hb.2.2
  have hj := vok.2.1
  have hpe := hb.2.1
  have hp := ok.1
  obtain ⟨v, hv⟩ : ∃ v : TV, v = vm μ := ⟨_, rfl⟩
  unfold Q_X11_grows at hR
  rw [← hv] at ok vok hj hpe hp ht hR
  obtain ⟨F, eF⟩ : ∃ F : Mem → Prop, ∀ m, F m = (∀ z : Int, z ≠ 215 → z ≠ 216 → z ≠ 217 → m z = μ z) := ⟨_, fun _ => rfl⟩
  have Fput : ∀ (m : Mem) (o j w : Int), F m → (o = 215 ∨ o = 216 ∨ o = 217) → F (updm m o j w) := fun m o j w hf ho => by
    rw [eF] at hf ⊢
    exact fun z a b c => by rw [ru_ne (by omega), hf z a b c]
  have fr : ∀ m : Mem, F m → MB m ∧ vm m = v ∧ m 201 13 = v 0 0 := fun m hf => by
    rw [eF] at hf
    obtain ⟨mb, ev⟩ := MB_frame hb (hf 202 (by omega) (by omega) (by omega)) (by rw [hf 201 (by omega) (by omega) (by omega)]) (by rw [hf 201 (by omega) (by omega) (by omega)])
    exact ⟨mb, ev.trans hv.symm, by rw [hf 201 (by omega) (by omega) (by omega), hpe]⟩
  have p1 : ∀ x : Int, 0 < x → x < v 0 0 → (0 ≤ parV v x ∧ parV v x < v 0 0) ∧ wayV v 0 (parV v x) < wayV v 0 x := fun x x0 x1 => ⟨par_in ok x, (par_lt ok hj x0 x1).2⟩
  -- the branches, once all are listed
  have tail : ∀ (m : Mem) (ix : Int → Int), F m → m 215 0 = -1 → (∀ x : Int, 0 < x → x < v 0 0 → m 215 x = parV v x) → (∀ j : Int, 0 ≤ j → j < v 0 0 → (0 ≤ m 217 j ∧ m 217 j < v 0 0) ∧ ix (m 217 j) = j) → (∀ x : Int, 0 ≤ x → x < v 0 0 → (0 ≤ ix x ∧ ix x < v 0 0) ∧ m 217 (ix x) = x) → (∀ x : Int, 0 < x → x < v 0 0 → ix (parV v x) < ix x) → m 217 0 = 0 → V_X11_grows R 106 [(0, kR 201), (2, kI 0)] m := by
    intro m ix hF h0 h215 hQ hix hlt hq0
    have ix0 : ix 0 = 0 := by
      have := (hQ 0 (by omega) (by omega)).2
      rw [hq0] at this
      exact this
    -- adding up
    have add := dn_ind (P := fun i => ∀ m' : Mem, F m' → m' 215 = m 215 → m' 217 = m 217 → (∀ x : Int, 0 < x → x < v 0 0 → m' 216 x = lenV v x + sm (fun c => if (c ≠ 0 ∧ parV v c = x) ∧ i < ix c then brV v c else 0) (v 0 0)) → V_X11_grows R 159 [(0, kR 201), (2, kI i)] m') (lo := 0) (hi := v 0 0 - 1) ?_ ?_
    rotate_left
    · intro i i0 i1 ih m' hF' e15 e17 hs
      have hQi := hQ i (by omega) (by omega)
      obtain ⟨a, ea⟩ : ∃ a : Int, a = m 217 i := ⟨_, rfl⟩
      rw [← ea] at hQi
      have a0 : 0 < a := by
        have : a ≠ 0 := fun q => by rw [q, ix0] at hQi; omega
        omega
      have pa := p1 a a0 hQi.1.2
      have ba := br_bd ok hj (p := a)
      -- all its children are added
      have full : m' 216 a = brV v a := by
        rw [hs a a0 hQi.1.2, br_eq ok hj a0 hQi.1.2]
        unfold bsV
        congr 1
        refine sm_congr fun c c0 c1 => ?_
        by_cases q : c ≠ 0 ∧ parV v c = a
        · have := hlt c (by omega) c1
          rw [q.2, hQi.2] at this
          rw [if_pos ⟨q, this⟩, if_pos q]
        · rw [if_neg (fun w => q w.1), if_neg q]
      refine vc_X11_grows_159 ?_
      rw [e15, e17, ← ea, h215 a a0 hQi.1.2]
      have nx : ∀ m2 : Mem, F m2 → m2 215 = m 215 → m2 217 = m 217 → (∀ x : Int, 0 < x → x < v 0 0 → m2 216 x = m' 216 x + (if x = parV v a then brV v a else 0)) → V_X11_grows R 199 [(0, kR 201), (2, kI i)] m2 := fun m2 f2 g15 g17 hx => by
        refine vc_X11_grows_199 ?_
        have := ih m2 f2 g15 g17 (fun x x0 x1 => ?_)
        · rw [show i + -1 = i - 1 by omega]; exact this
        · have e : sm (fun c => if (c ≠ 0 ∧ parV v c = x) ∧ i - 1 < ix c then brV v c else 0) (v 0 0) = sm (fun c => (if (c ≠ 0 ∧ parV v c = x) ∧ i < ix c then brV v c else 0) + (if c = a then (if x = parV v a then brV v a else 0) else 0)) (v 0 0) := sm_congr fun c c0 c1 => by
            by_cases q : c = a
            · rw [if_pos q, q, hQi.2, if_neg (show ¬ ((a ≠ 0 ∧ parV v a = x) ∧ i < i) from fun w => by omega)]
              by_cases r : x = parV v a
              · rw [if_pos ⟨⟨by omega, r.symm⟩, by omega⟩, if_pos r]; omega
              · rw [if_neg (fun w => r w.1.2.symm), if_neg r]; rfl
            · rw [if_neg q, Int.add_zero]
              have hc : ix c ≠ i := fun w => q (by
                have := (hix c c0 c1).2
                rw [w, ← ea] at this
                exact this.symm)
              by_cases r : (c ≠ 0 ∧ parV v c = x) ∧ i < ix c
              · rw [if_pos r, if_pos ⟨r.1, by omega⟩]
              · rw [if_neg r, if_neg (fun w => r ⟨w.1, by omega⟩)]
          rw [hx x x0 x1, hs x x0 x1, e, sm_add (by omega), sm_one (by omega), if_pos (show 0 ≤ a ∧ a < v 0 0 from hQi.1), Int.add_assoc]
      refine ⟨rr (by omega), fun c => absurd c (by omega), fun _ => ⟨by omega, by omega, rr (by omega), fun c => nx m' hF' e15 e17 (fun x x0 x1 => by rw [if_neg (by omega), Int.add_zero]), fun c => ⟨by omega, by omega, by omega, by omega, nx _ (Fput m' 216 _ _ hF' (by omega)) (by rw [ru_ne (by omega), e15]) (by rw [ru_ne (by omega), e17]) (fun x x0 x1 => ?_)⟩⟩⟩
      rw [ru_eq, full]
      by_cases q : x = parV v a
      · rw [q, r1_eq, if_pos rfl]
      · rw [r1_ne q, if_neg q, Int.add_zero]
    · intro m' hF' e15 e17 hs
      refine vc_X11_grows_159 ⟨rr (by omega), fun _ => hR m' ⟨⟨by rw [e15]; exact h0, fun a a0 a1 => ⟨by rw [e15]; exact h215 a a0 a1, ?_⟩⟩, by rw [eF] at hF'; exact hF'⟩, fun c => absurd (Int.le_refl 0) c⟩
      rw [hs a a0 a1, br_eq ok hj a0 a1]
      unfold bsV
      congr 1
      refine sm_congr fun c c0 c1 => ?_
      by_cases q : c ≠ 0 ∧ parV v c = a
      · have hc := (hix c c0 c1).1
        have := hlt c (by omega) c1
        have h1 := (hix _ (p1 c (by omega) c1).1.1 (p1 c (by omega) c1).1.2).1
        rw [if_pos ⟨q, by omega⟩, if_pos q]
      · rw [if_neg (fun w => q w.1), if_neg q]
    -- the lanes
    have len := up_ind (P := fun i => ∀ m' : Mem, F m' → m' 215 = m 215 → m' 217 = m 217 → (∀ x : Int, 0 < x → x < i → m' 216 x = lenV v x) → V_X11_grows R 106 [(0, kR 201), (2, kI i)] m') (lo := 0) (hi := v 0 0) ?_ ?_
    · exact len 0 (by omega) (by omega) m hF rfl rfl (fun x x0 x1 => absurd x0 (by omega))
    · intro i i0 i1 ih m' hF' e15 e17 hs
      obtain ⟨mb, ev, e13⟩ := fr m' hF'
      refine vc_X11_grows_106 ?_
      rw [e13]
      refine ⟨rr (by omega), rr (by omega), fun c => absurd c (by omega), fun _ => ⟨rr (by omega), fun c => ?_, fun c => ⟨by omega, vc_X11_grows_146 (ih _ (Fput m' 216 i 0 hF' (by omega)) (by rw [ru_ne (by omega), e15]) (by rw [ru_ne (by omega), e17]) (fun x x0 x1 => by rw [ru_eq, r1_ne (by omega)]; exact hs x x0 (by omega)))⟩⟩⟩
      have pi := p1 i (by omega) i1
      rw [e15, h215 i (by omega) i1, of_7' i0 (by omega) pi.1.1 (by omega), ev, len_lane vok ht (by omega) i1]
      refine ⟨by omega, ⟨rfl, mb.1, by omega, by omega⟩, by omega, vc_X11_grows_146 (ih _ (Fput m' 216 i _ hF' (by omega)) (by rw [ru_ne (by omega), e15]) (by rw [ru_ne (by omega), e17]) (fun x x0 x1 => ?_))⟩
      rw [ru_eq]
      by_cases e : x = i
      · rw [e, r1_eq]
      · rw [r1_ne e]; exact hs x x0 (by omega)
    · intro m' hF' e15 e17 hs
      obtain ⟨mb, ev, e13⟩ := fr m' hF'
      refine vc_X11_grows_106 ?_
      rw [e13]
      refine ⟨rr (by omega), rr (by omega), fun _ => add (v 0 0 - 1) (by omega) (Int.le_refl _) m' hF' e15 e17 (fun x x0 x1 => ?_), fun c => absurd (Int.le_refl _) c⟩
      have z : sm (fun c => if (c ≠ 0 ∧ parV v c = x) ∧ v 0 0 - 1 < ix c then brV v c else 0) (v 0 0) = sm (fun _ => 0) (v 0 0) := sm_congr fun c c0 c1 => by
        have := (hix c c0 c1).1
        rw [if_neg (fun w => by omega)]
      rw [hs x x0 x1, z, sm_zero (by omega), Int.add_zero]
  -- the list is at its end
  have done : ∀ (n i : Int) (D : Int → Bool) (m : Mem), 0 ≤ i → i = n → F m → BF v (mbB v D) D n i m → V_X11_grows R 18 [(0, kR 201), (1, kI n), (2, kI i)] m := by
    intro n i D m i0 hin hF hBF
    obtain ⟨h1, h2, h3, h4, h5, h6, h7, h8, h9⟩ := hBF
    have hn := cnt_bd (p := mbB v D) (n := v 0 0) (by omega)
    have all : ∀ x : Int, 0 ≤ x → x < v 0 0 → mbB v D x = true := way_ind ok hj h2 (fun a a0 a1 ha => by
      obtain ⟨j, hj1, hj2⟩ := h5 _ (p1 a a0 a1).1.1 (p1 a a0 a1).1.2 ha
      have : D (parV v a) = true := (h6 _).mpr ⟨j, by omega, hj2⟩
      unfold mbB
      rw [this, Bool.or_true])
    have en : n = v 0 0 := by rw [h1]; exact cnt_all (by omega) all
    obtain ⟨ix, eix⟩ : ∃ ix : Int → Int, ∀ x, ix x = frst (fun j => decide (m 217 j = x)) n := ⟨_, fun _ => rfl⟩
    have hix : ∀ x : Int, 0 ≤ x → x < v 0 0 → (0 ≤ ix x ∧ ix x < v 0 0) ∧ m 217 (ix x) = x := fun x x0 x1 => by
      obtain ⟨j, hj1, hj2⟩ := h5 x x0 x1 (all x x0 x1)
      rw [eix]
      rcases frst_cases (fun j => decide (m 217 j = x)) (n := n) (by omega) with ⟨e, hh⟩ | ⟨k, k0, k1, e, hk, _⟩
      · have := of_decide_eq_false (hh j hj1.1 hj1.2)
        exact absurd hj2 this
      · rw [e]
        exact ⟨by omega, of_decide_eq_true hk⟩
    have inj : ∀ j k : Int, 0 ≤ j → j < n → 0 ≤ k → k < n → m 217 j = m 217 k → j = k := fun j k j0 j1 k0 k1 e => by
      rcases (by omega : j < k ∨ j = k ∨ k < j) with q | q | q
      · exact absurd e (h4 j k j0 q k1)
      · exact q
      · exact absurd e.symm (h4 k j k0 q j1)
    have hQ : ∀ j : Int, 0 ≤ j → j < v 0 0 → (0 ≤ m 217 j ∧ m 217 j < v 0 0) ∧ ix (m 217 j) = j := fun j j0 j1 => by
      have h := (h3 j j0 (by omega)).1
      have g := hix _ h.1 h.2
      exact ⟨h, inj _ _ g.1.1 (by omega) j0 (by omega) g.2⟩
    refine vc_X11_grows_18 ⟨rr (by omega), rr (by omega), fun _ => tail m ix hF h8 (fun x x0 x1 => (h7 x x0 x1 (all x (by omega) x1)).1) hQ hix (fun x x0 x1 => ?_) h9, fun c => absurd (by omega) c⟩
    obtain ⟨_, j, k, j0, jk, kn, ek, ej⟩ := h7 x x0 x1 (all x (by omega) x1)
    have gx := (hQ k (by omega) (by omega)).2
    have gp := (hQ j j0 (by omega)).2
    rw [ek] at gx
    rw [ej] at gp
    omega
  -- the list
  have main : ∀ (k : Nat) (n i : Int) (D : Int → Bool) (m : Mem), 8 - i ≤ k → 0 ≤ i → i ≤ n → F m → BF v (mbB v D) D n i m → V_X11_grows R 18 [(0, kR 201), (1, kI n), (2, kI i)] m := by
    intro k
    induction k with
    | zero =>
      intro n i D m hk i0 hin hF hBF
      have hn := cnt_bd (p := mbB v D) (n := v 0 0) (by omega)
      have h1 := hBF.1
      exact done n i D m i0 (by omega) hF hBF
    | succ k ih =>
      intro n i D m hk i0 hin hF hBF
      by_cases hlast : i = n
      · exact done n i D m i0 hlast hF hBF
      have hn := cnt_bd (p := mbB v D) (n := v 0 0) (by omega)
      have h10 := hBF.1
      have h30 := hBF.2.2.1 i i0 (by omega)
      obtain ⟨a, ea⟩ : ∃ a : Int, a = m 217 i := ⟨_, rfl⟩
      rw [← ea] at h30
      have Da : ∀ m' : Mem, (∀ x : Int, D x = true ↔ ∃ j : Int, (0 ≤ j ∧ j < i) ∧ m' 217 j = x) → (∀ j : Int, 0 ≤ j → j < i → m' 217 j ≠ a) → D a = false := fun m' h6 h4 => by
        cases q : D a
        · rfl
        · obtain ⟨j, j1, j2⟩ := (h6 a).mp q
          exact absurd j2 (h4 j j1.1 j1.2)
      have hDa := Da m hBF.2.2.2.2.2.1 (fun j j0 j1 => by rw [ea]; exact hBF.2.2.2.1 j i j0 j1 (by omega))
      -- its children
      have inn := up_ind (P := fun b => ∀ (n' : Int) (m' : Mem), i < n' → m' 217 i = a → F m' → BF v (mcB v D a b) D n' i m' → V_X11_grows R 33 [(0, kR 201), (1, kI n'), (2, kI i), (3, kI a), (4, kI b)] m') (lo := 0) (hi := v 0 0) ?_ ?_
      · refine vc_X11_grows_18 ?_
        rw [← ea]
        refine ⟨rr (by omega), rr (by omega), fun c => absurd c (by omega), fun _ => ⟨by omega, inn 0 (by omega) (by omega) n m (by omega) ea.symm hF (BF_congr (by omega) hBF (fun x x0 x1 => ?_))⟩⟩
        unfold mcB mbB
        rw [decide_eq_false (show ¬ x < 0 by omega), Bool.and_false, Bool.or_false]
      · intro b b0 b1 ihb n' m' hin' h17 hF' hB'
        obtain ⟨mb, ev, e13⟩ := fr m' hF'
        have hn' := cnt_bd (p := mcB v D a b) (n := v 0 0) (by omega)
        have h1' := hB'.1
        have h7 := vm7_nn (μ := m') (by rw [ev]; exact ok) (8 * a + b)
        rw [ev] at h7
        have ed := edge_par vok ht h30.1.1 h30.1.2 b0 b1
        have e15 : m' 215 a = if a = 0 then -1 else parV v a := by
          by_cases c : a = 0
          · rw [if_pos c, c]; exact hB'.2.2.2.2.2.2.2.1
          · rw [if_neg c]
            have hM := (hB'.2.2.1 i i0 hin').2
            rw [h17] at hM
            exact (hB'.2.2.2.2.2.2.1 a (by omega) h30.1.2 hM).1
        have r15 : -1 ≤ m' 215 a ∧ m' 215 a < 8 := by
          rw [e15]
          have := par_in ok a
          split <;> omega
        -- no child: nothing new
        have same : ¬ (b ≠ 0 ∧ parV v b = a) → BF v (mcB v D a (b + 1)) D n' i m' := fun c => BF_congr (by omega) hB' (fun x x0 x1 => by
          unfold mcB
          by_cases q : x = b
          · subst q
            rw [decide_eq_false (show ¬ x < x by omega), decide_eq_true (show x < x + 1 by omega)]
            by_cases x00 : x = 0
            · rw [decide_eq_true x00]; rfl
            · rw [decide_eq_false (show ¬ parV v x = a from fun w => c ⟨x00, w⟩)]; rfl
          · have : decide (x < b + 1) = decide (x < b) := decide_eq_decide.mpr (by omega)
            rw [this])
        refine vc_X11_grows_33 ?_
        rw [e13, of_7' h30.1.1 (by omega) b0 (by omega), ev]
        refine ⟨rr (by omega), rr (by omega), fun c => absurd c (by omega), fun _ => ⟨⟨rfl, mb.1, by omega, by omega⟩, rr (by omega), fun c => ihb n' m' hin' h17 hF' (same (fun w => ?_)), fun c => ⟨by omega, rr (by omega), rr (by omega), fun c2 => ⟨by omega, vc_X11_grows_81 ?_⟩, fun c2 => ihb n' m' hin' h17 hF' (same (fun w => ?_))⟩⟩⟩
        · rw [if_pos c] at ed
          unfold edV at ed
          rw [if_pos (⟨w.1, w.2.symm⟩ : b ≠ 0 ∧ a = parV v b)] at ed
          split at ed <;> omega
        · -- a child
          rw [if_neg c] at ed
          have ch : b ≠ 0 ∧ a = parV v b := by
            unfold edV at ed
            by_cases q : b ≠ 0 ∧ a = parV v b
            · exact q
            · rw [if_neg q] at ed
              by_cases r : a ≠ 0 ∧ b = parV v a
              · rw [e15, if_neg r.1] at c2
                exact absurd r.2 c2
              · rw [if_neg r] at ed; omega
          obtain ⟨g1, g2, g3, g4, g5, g6, g7, g8, g9⟩ := hB'
          have old : mcB v D a b b = false := by
            unfold mcB
            rw [decide_eq_false ch.1, ← ch.2, hDa, decide_eq_false (show ¬ b < b by omega)]
            simp
          have new : mcB v D a (b + 1) b = true := by
            unfold mcB
            rw [← ch.2, decide_eq_true (rfl : a = a), decide_eq_true (show b < b + 1 by omega)]
            simp
          have oth : ∀ x : Int, x ≠ b → mcB v D a (b + 1) x = mcB v D a b x := fun x q => by
            unfold mcB
            have : decide (x < b + 1) = decide (x < b) := decide_eq_decide.mpr (by omega)
            rw [this]
          have ca := cnt_add (p := mcB v D a b) (q := mcB v D a (b + 1)) (n := v 0 0) (x := b) (by omega) b0 b1 old new (fun x _ _ q => oth x q)
          have cb := cnt_bd (p := mcB v D a (b + 1)) (n := v 0 0) (by omega)
          have ne17 : ∀ j : Int, 0 ≤ j → j < n' → m' 217 j ≠ b := fun j j0 j1 q => by
            have := (g3 j j0 j1).2
            rw [q, old] at this
            cases this
          refine ⟨by omega, vc_X11_grows_89 (ihb (n' + 1) _ (by omega) ?_ (Fput _ 217 _ _ (Fput m' 215 _ _ hF' (by omega)) (by omega)) ?_)⟩
          · rw [ru_eq, r1_ne (by omega), ru_ne (by omega), h17]
          · have e217 : ∀ j : Int, j ≠ n' → (updm (updm m' 215 b a) 217 n' b) 217 j = m' 217 j := fun j q => by rw [ru_eq, r1_ne q, ru_ne (by omega)]
            have e217n : (updm (updm m' 215 b a) 217 n' b) 217 n' = b := by rw [ru_eq, r1_eq]
            have e215 : ∀ x : Int, x ≠ b → (updm (updm m' 215 b a) 217 n' b) 215 x = m' 215 x := fun x q => by rw [ru_ne (by omega), ru_eq, r1_ne q]
            have e215b : (updm (updm m' 215 b a) 217 n' b) 215 b = a := by rw [ru_ne (by omega), ru_eq, r1_eq]
            generalize updm (updm m' 215 b a) 217 n' b = m2 at e217 e217n e215 e215b
            refine ⟨by rw [ca]; omega, by rw [oth 0 (fun q => ch.1 q.symm)]; exact g2, fun j j0 j1 => ?_, fun j k j0 jk k1 => ?_, fun x x0 x1 hx => ?_, fun x => ?_, fun x x0 x1 hx => ?_, by rw [e215 0 (fun q => ch.1 q.symm)]; exact g8, by rw [e217 0 (by omega)]; exact g9⟩
            · by_cases q : j = n'
              · rw [q, e217n]; exact ⟨⟨b0, b1⟩, new⟩
              · rw [e217 j q]
                have := g3 j j0 (by omega)
                exact ⟨this.1, by rw [oth _ (ne17 j j0 (by omega))]; exact this.2⟩
            · by_cases q : k = n'
              · rw [q, e217n, e217 j (by omega)]; exact ne17 j j0 (by omega)
              · rw [e217 k q, e217 j (by omega)]; exact g4 j k j0 jk (by omega)
            · by_cases q : x = b
              · exact ⟨n', by omega, by rw [e217n, q]⟩
              · rw [oth x q] at hx
                obtain ⟨j, j1, j2⟩ := g5 x x0 x1 hx
                exact ⟨j, by omega, by rw [e217 j (by omega)]; exact j2⟩
            · rw [g6 x]
              constructor
              · intro ⟨j, j1, j2⟩
                exact ⟨j, j1, by rw [e217 j (by omega)]; exact j2⟩
              · intro ⟨j, j1, j2⟩
                exact ⟨j, j1, by rw [e217 j (by omega)] at j2; exact j2⟩
            · by_cases q : x = b
              · rw [q, e215b]
                exact ⟨ch.2, i, n', i0, hin', by omega, e217n, by rw [e217 i (by omega), h17]; exact ch.2⟩
              · rw [oth x q] at hx
                obtain ⟨w1, j, k', j0, jk, kn, ek, ej⟩ := g7 x x0 x1 hx
                exact ⟨by rw [e215 x q]; exact w1, j, k', j0, jk, by omega, by rw [e217 k' (by omega)]; exact ek, by rw [e217 j (by omega)]; exact ej⟩
        · have q := Classical.not_not.mp c2
          rw [e15] at q
          by_cases z : a = 0
          · rw [if_pos z] at q; omega
          · rw [if_neg z] at q
            have w1 := p1 a (by omega) h30.1.2
            have w2 := p1 b (by omega) b1
            rw [w.2] at w2
            rw [← q] at w1
            omega
      · intro n' m' hin' h17 hF' hB'
        obtain ⟨mb, ev, e13⟩ := fr m' hF'
        have hn' := cnt_bd (p := mcB v D a (v 0 0)) (n := v 0 0) (by omega)
        have h1' := hB'.1
        refine vc_X11_grows_33 ?_
        rw [e13]
        refine ⟨rr (by omega), rr (by omega), fun _ => ih n' (i + 1) (fun x => D x || decide (x = a)) m' (by omega) (by omega) (by omega) hF' ?_, fun c => absurd (Int.le_refl _) c⟩
        have hB2 := BF_congr (M' := mbB v (fun x => D x || decide (x = a))) (by omega) hB' (fun x x0 x1 => by
          unfold mbB mcB
          rw [decide_eq_true x1, Bool.and_true])
        obtain ⟨g1, g2, g3, g4, g5, g6, g7⟩ := hB2
        refine ⟨g1, g2, g3, g4, g5, fun x => ?_, g7⟩
        show (D x || decide (x = a)) = true ↔ _
        rw [Bool.or_eq_true, g6 x, decide_eq_true_iff]
        constructor
        · intro q
          rcases q with ⟨j, j1, j2⟩ | q
          · exact ⟨j, by omega, j2⟩
          · exact ⟨i, by omega, by rw [h17, q]⟩
        · intro ⟨j, j1, j2⟩
          by_cases q : j = i
          · rw [q, h17] at j2
            exact Or.inr j2.symm
          · exact Or.inl ⟨j, by omega, j2⟩
  refine vc_X11_grows_0 (vc_X11_grows_9 (vc_X11_grows_16 (main 8 1 0 (fun _ => false) _ (by omega) (by omega) (by omega) (Fput _ 215 _ _ (Fput μ 217 _ _ (by rw [eF]; exact fun _ _ _ _ => rfl) (by omega)) (by omega)) ?_)))
  have e217 : updm (updm μ 217 0 0) 215 0 (-1) 217 0 = 0 := by rw [ru_ne (by omega), ru_eq, r1_eq]
  have e215 : updm (updm μ 217 0 0) 215 0 (-1) 215 0 = -1 := by rw [ru_eq, r1_eq]
  generalize updm (updm μ 217 0 0) 215 0 (-1) = m at e217 e215
  have mf : ∀ x : Int, mbB v (fun _ => false) x = decide (x = 0) := fun x => by unfold mbB; rw [Bool.or_false]
  refine ⟨?_, by rw [mf]; rfl, fun j j0 j1 => ?_, fun j k j0 jk k1 => absurd k1 (by omega), fun x x0 x1 hx => ?_, fun x => ⟨fun q => by simp at q, fun ⟨j, j1, _⟩ => absurd j1.2 (by omega)⟩, fun x x0 x1 hx => ?_, e215, e217⟩
  · have h1 := cnt_add (p := fun _ => false) (q := mbB v (fun _ => false)) (n := v 0 0) (x := 0) (by omega) (by omega) (by omega) rfl (by rw [mf]; rfl) (fun x _ _ q => by rw [mf]; exact decide_eq_false q)
    have h2 : cnt (fun _ => false) (v 0 0) = 0 := sm_zero (by omega)
    omega
  · have : j = 0 := by omega
    rw [this, e217, mf]
    exact ⟨by omega, rfl⟩
  · rw [mf] at hx
    exact ⟨0, by omega, by rw [e217, of_decide_eq_true hx]⟩
  · rw [mf] at hx
    have := of_decide_eq_true hx
    omega
theorem ct_X11_grows : Ct mX11_grows 1 21 0 0 (nrmS S_X11_grows) := by
  refine ct_vm (own := RX11) (by decide +kernel) rfl ?_ ?_
  · intro as μ Q hS
    unfold S_X11_grows at hS
    split at hS
    · exact Nat.le_of_ble_eq_true rfl
    · exact hS.elim
  · intro as μ R hS
    unfold S_X11_grows at hS
    split at hS
    · exact body_X11_grows hS.1 hS.2
    · exact hS.elim
