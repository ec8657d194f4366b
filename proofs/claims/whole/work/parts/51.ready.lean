/-! a town as it stands ready -/
def TR (μ : Mem) (t : Int) : Prop := TB μ t ∧ WY μ t ∧ joined (tv μ t) ∧ calm (tv μ t) ∧ μ t 3 = sm (tv μ t 4) (tv μ t 0 0) ∧ μ t 4 = cellV (tv μ t)
theorem TR_frame {μ m : Mem} {t : Int} (h : TR μ t) (hf : ∀ z : Int, t ≤ z → z ≤ t + 9 → m z = μ z) : TR m t := by
  obtain ⟨h1, h2, h3, h4, h5, h6⟩ := h
  have e := tv_frame hf
  unfold TR WY
  rw [e, hf t (by omega) (by omega), hf (t + 2) (by omega) (by omega)]
  exact ⟨TB_frame h1 hf, h2, h3, h4, h5, h6⟩
theorem cell_bd {v : TV} (ok : TVok v) : 0 ≤ cellV v ∧ cellV v < 256 := by
  have hp := ok.1
  have h := bitsV_bd (p := fun a => decide (0 < v 4 a)) (n := v 0 0) (by omega)
  have h2 : 2 ^ (v 0 0).toNat ≤ 2 ^ 8 := Nat.pow_le_pow_right (by omega) (by omega)
  have h3 : (2 : Nat) ^ 8 = 256 := rfl
  unfold cellV
  omega
theorem cell_has {v : TV} (ok : TVok v) {a : Int} (a0 : 0 ≤ a) : hasB (cellV v) a = (decide (a < v 0 0) && decide (0 < v 4 a)) := by
  have hp := ok.1
  exact bitsV_has (by omega) a a0
/-- what lies in g but not in s -/
def difS (g s : Int) : Int := ((dif g.toNat s.toNat : Nat) : Int)
theorem b_difS {g s : Int} (g0 : 0 ≤ g) (g1 : g < 256) (s0 : 0 ≤ s) (s1 : s < 256) : band g (bxor s (-1)) = difS g s := b_dif g0 (by omega) s0 (by omega)
theorem difS_has {g s a : Int} : hasB (difS g s) a = (hasB g a && !hasB s a) := by
  unfold hasB difS
  rw [Int.toNat_natCast, dif_tb]
theorem difS_bd {g s : Int} (g0 : 0 ≤ g) : 0 ≤ difS g s ∧ difS g s ≤ g := by
  have := dif_le (s := g.toNat) (g := s.toNat)
  unfold difS
  omega
theorem b_xdif {g s : Int} (g0 : 0 ≤ g) (g1 : g < 256) (s0 : 0 ≤ s) (s1 : s < 256) (h : subS s g) : bxor g s = difS g s := by
  rw [b_xor g0 (by omega) s0 (by omega)]
  unfold difS
  congr 1
  apply Nat.eq_of_testBit_eq
  intro j
  rw [dif_tb, Nat.testBit_xor]
  by_cases hj : j < 8
  · have := h j (by omega) (by omega)
    unfold hasB at this
    simp only [Int.toNat_natCast] at this
    cases q : s.toNat.testBit j
    · simp
    · rw [this q]; rfl
  · have h1 := has_lt s0 s1 (a := (j : Int)) (by omega)
    have h2 := has_lt g0 g1 (a := (j : Int)) (by omega)
    unfold hasB at h1 h2
    simp only [Int.toNat_natCast] at h1 h2
    rw [h1, h2]; rfl
def subB (s g : Int) : Bool := decide (difS s g = 0)
theorem subB_iff {s g : Int} (s0 : 0 ≤ s) (s1 : s < 256) (g0 : 0 ≤ g) (g1 : g < 256) : subB s g = true ↔ subS s g := by
  rw [← b_sub s0 s1 g0 g1, b_difS s0 s1 g0 g1]
  unfold subB
  exact decide_eq_true_iff
theorem subB_0 {g : Int} : subB 0 g = true := by
  unfold subB difS
  refine decide_eq_true ?_
  have : (0 : Int).toNat = 0 := rfl
  rw [this]
  have := dif_le (s := 0) (g := g.toNat)
  omega
theorem sub_le {s g : Int} (s0 : 0 ≤ s) (s1 : s < 256) (g0 : 0 ≤ g) (g1 : g < 256) (h : subS s g) : s ≤ g := by
  have hb := (b_sub s0 s1 g0 g1).mpr h
  rw [b_dif s0 (by omega) g0 (by omega)] at hb
  have h1 : dif s.toNat g.toNat = 0 := by omega
  have h2 : s.toNat = s.toNat &&& g.toNat := by
    apply Nat.eq_of_testBit_eq
    intro j
    have h3 := dif_tb (s := s.toNat) (g := g.toNat) (j := j)
    rw [h1, Nat.zero_testBit] at h3
    rw [Nat.testBit_and]
    cases q : s.toNat.testBit j <;> cases q2 : g.toNat.testBit j <;> rw [q, q2] at h3 <;> simp_all
  have h4 : s.toNat &&& g.toNat ≤ g.toNat := Nat.and_le_right
  omega
theorem sub_dif {g s : Int} : subS (difS g s) g := fun a _ _ h => by
  rw [difS_has] at h
  exact (Bool.and_eq_true _ _ |>.mp h).1
/-- the cellars away from the start -/
def awayV (v : TV) : Int := awayS (cellV v)
theorem away_bd {v : TV} (ok : TVok v) : 0 ≤ awayV v ∧ awayV v < 256 := by
  have := cell_bd ok
  have := dif_le (s := (cellV v).toNat) (g := 1)
  unfold awayV awayS
  omega
theorem away_has {v : TV} (ok : TVok v) {a : Int} (a0 : 0 ≤ a) : hasB (awayV v) a = (decide (0 < a) && decide (a < v 0 0) && decide (0 < v 4 a)) := by
  have h := cell_has ok a0
  unfold awayV awayS
  unfold hasB at h ⊢
  rw [Int.toNat_natCast, dif_tb, h]
  have h1 : Nat.testBit 1 a.toNat = decide (a = 0) := by
    rw [show (1 : Nat) = 2 ^ 0 from rfl, Nat.testBit_two_pow]
    by_cases q : a = 0
    · subst q; rfl
    · rw [decide_eq_false q, decide_eq_false (by omega)]
  rw [h1]
  by_cases q : a = 0
  · subst q; simp
  · rw [decide_eq_false q, decide_eq_true (show 0 < a by omega)]; simp
theorem away_in {v : TV} (ok : TVok v) : ∀ a : Int, 0 ≤ a → a < 8 → hasB (awayV v) a = true → a < v 0 0 := fun a a0 _ h => by
  rw [away_has ok a0] at h
  exact of_decide_eq_true (Bool.and_eq_true _ _ |>.mp (Bool.and_eq_true _ _ |>.mp h).1).2
theorem cell_in {v : TV} (ok : TVok v) : ∀ a : Int, 0 ≤ a → a < 8 → hasB (cellV v) a = true → a < v 0 0 := fun a a0 _ h => by
  rw [cell_has ok a0] at h
  exact of_decide_eq_true (Bool.and_eq_true _ _ |>.mp h).1
theorem rcN_congr {W W' : Int → Int → Int} {r r' : Int → Int} {n : Int} (hn : 0 ≤ n) (hW : ∀ a b : Int, 0 ≤ a → a < n → 0 ≤ b → b < n → W a b = W' a b) (hr : ∀ s : Int, 0 ≤ s → s < 256 → r s = r' s) : ∀ (k : Nat) (fm s : Int), 0 ≤ fm → fm < n → 0 ≤ s → s < 256 → rcN W r n k fm s = rcN W' r' n k fm s ∧ rcS W r n (rcN W r n k) fm s = rcS W' r' n (rcN W' r' n k) fm s := by
  intro k
  have step : ∀ (F F' : Int → Int → Int), (∀ fm s : Int, 0 ≤ fm → fm < n → 0 ≤ s → s < 256 → F fm s = F' fm s) → ∀ fm s : Int, 0 ≤ fm → fm < n → 0 ≤ s → s < 256 → rcS W r n F fm s = rcS W' r' n F' fm s := by
    intro F F' hF fm s f0 f1 s0 s1
    unfold rcS
    by_cases hs : s = 0
    · rw [if_pos hs, if_pos hs]
    · rw [if_neg hs, if_neg hs]
      refine mnF_congr hn (fun _ _ _ => rfl) (fun b b0 b1 hb => ?_)
      have h := rem_bd (s := s) (a := b) s0
      rw [hW fm b f0 f1 b0 b1, hr s s0 s1, hF b (remS s b) b0 b1 h.1 (by omega)]
  induction k with
  | zero => intro fm s f0 f1 s0 s1; exact ⟨rfl, step _ _ (fun _ _ _ _ _ _ => rfl) fm s f0 f1 s0 s1⟩
  | succ k ih =>
    have h : ∀ fm s : Int, 0 ≤ fm → fm < n → 0 ≤ s → s < 256 → rcN W r n (k + 1) fm s = rcN W' r' n (k + 1) fm s := fun fm s f0 f1 s0 s1 => by
      show (rcS W r n (rcN W r n k) fm s).1 = (rcS W' r' n (rcN W' r' n k) fm s).1
      rw [(ih fm s f0 f1 s0 s1).2]
    intro fm s f0 f1 s0 s1
    exact ⟨h fm s f0 f1 s0 s1, step _ _ h fm s f0 f1 s0 s1⟩
theorem rcV_congr {W W' : Int → Int → Int} {r r' : Int → Int} {n : Int} (hn : 0 ≤ n) (hW : ∀ a b : Int, 0 ≤ a → a < n → 0 ≤ b → b < n → W a b = W' a b) (hr : ∀ s : Int, 0 ≤ s → s < 256 → r s = r' s) {fm s : Int} (f0 : 0 ≤ fm) (f1 : fm < n) (s0 : 0 ≤ s) (s1 : s < 256) : rcV W r n fm s = rcV W' r' n fm s ∧ rcS W r n (rcV W r n) fm s = rcS W' r' n (rcV W' r' n) fm s := by
  have h : ∀ fm s : Int, 0 ≤ fm → fm < n → 0 ≤ s → s < 256 → rcV W r n fm s = rcV W' r' n fm s := fun fm s f0 f1 s0 s1 => (rcN_congr hn hW hr s.toNat fm s f0 f1 s0 s1).1
  refine ⟨h fm s f0 f1 s0 s1, ?_⟩
  unfold rcS
  by_cases hs : s = 0
  · rw [if_pos hs, if_pos hs]
  · rw [if_neg hs, if_neg hs]
    refine mnF_congr hn (fun _ _ _ => rfl) (fun b b0 b1 hb => ?_)
    have hb2 := rem_bd (s := s) (a := b) s0
    rw [hW fm b f0 f1 b0 b1, hr s s0 s1, h b (remS s b) b0 b1 hb2.1 (by omega)]
theorem rtV_in {W : Int → Int → Int} {r : Int → Int} {n g : Int} (hn : 1 ≤ n) (hn8 : n ≤ 8) (g0 : 0 ≤ g) (g1 : g < 256) (hg : ∀ a : Int, 0 ≤ a → a < 8 → hasB g a = true → a < n) : ∀ (i : Nat), (i : Int) ≤ popc g → (0 ≤ (rtV W r n g i).1 ∧ (rtV W r n g i).1 < n) ∧ (0 ≤ (rtV W r n g i).2 ∧ (rtV W r n g i).2 < 256) ∧ subS (rtV W r n g i).2 g ∧ popc (rtV W r n g i).2 = popc g - i
  | 0, _ => ⟨⟨Int.le_refl _, by show (0 : Int) < n; omega⟩, ⟨g0, g1⟩, fun _ _ _ h => h, by show popc g = popc g - 0; omega⟩
  | i + 1, hi => by
    have h := rtV_in (W := W) (r := r) hn hn8 g0 g1 hg i (by omega)
    have e : ((i + 1 : Nat) : Int) = (i : Int) + 1 := by omega
    rw [e, rtV_s (by omega)]
    generalize rtV W r n g i = x at h ⊢
    obtain ⟨h1, h2, h3, h4⟩ := h
    have hx : x.2 ≠ 0 := fun q => by rw [q, popc_0] at h4; omega
    have hin := rcS_in (W := W) (r := r) (n := n) (fm := x.1) (by omega) (show 0 < x.2 by omega) h2.2 (fun a a0 a1 ha => hg a a0 a1 (h3 a a0 a1 ha))
    have hr := rem_bd (s := x.2) (a := (rcS W r n (rcV W r n) x.1 x.2).2) h2.1
    have hp := popc_rem hin.1.1 (show _ < 8 by omega) hin.2.1
    unfold stpV
    exact ⟨hin.1, ⟨hr.1, by show remS x.2 _ < 256; omega⟩, sub_rem h3 hin.1.1, by show popc (remS x.2 _) = _; omega⟩
theorem rtV_congr {W W' : Int → Int → Int} {r r' : Int → Int} {n g : Int} (hn : 1 ≤ n) (hn8 : n ≤ 8) (hW : ∀ a b : Int, 0 ≤ a → a < n → 0 ≤ b → b < n → W a b = W' a b) (hr : ∀ s : Int, 0 ≤ s → s < 256 → r s = r' s) (g0 : 0 ≤ g) (g1 : g < 256) (hg : ∀ a : Int, 0 ≤ a → a < 8 → hasB g a = true → a < n) : ∀ (i : Nat), (i : Int) ≤ popc g → rtV W r n g i = rtV W' r' n g i
  | 0, _ => rfl
  | i + 1, hi => by
    have h := rtV_in (W := W) (r := r) hn hn8 g0 g1 hg i (by omega)
    have e : ((i + 1 : Nat) : Int) = (i : Int) + 1 := by omega
    rw [e, rtV_s (by omega), rtV_s (by omega), ← rtV_congr hn hn8 hW hr g0 g1 hg i (by omega)]
    have := (rcV_congr (n := n) (by omega) hW hr h.1.1 h.1.2 h.2.1.1 h.2.1.2).2
    unfold stpV
    rw [this]
theorem RowR_congr {μ : Mem} {W W' : Int → Int → Int} {r r' : Int → Int} {n g : Int} (hn : 1 ≤ n) (hn8 : n ≤ 8) (hW : ∀ a b : Int, 0 ≤ a → a < n → 0 ≤ b → b < n → W a b = W' a b) (hr : ∀ s : Int, 0 ≤ s → s < 256 → r s = r' s) (g0 : 0 ≤ g) (g1 : g < 256) (hg : ∀ a : Int, 0 ≤ a → a < 8 → hasB g a = true → a < n) (h : RowR μ W r n g) : RowR μ W' r' n g := by
  refine ⟨h.1, fun k k0 k1 => ?_⟩
  rw [h.2 k k0 k1]
  have := rtV_congr hn hn8 hW hr g0 g1 hg (k + 1).toNat (by omega)
  rw [Int.toNat_of_nonneg (by omega)] at this
  rw [this]
theorem CostR_congr {μ : Mem} {W W' : Int → Int → Int} {n g : Int} (hn : 1 ≤ n) (hW : ∀ a b : Int, 0 ≤ a → a < n → 0 ≤ b → b < n → W a b = W' a b) (h : CostR μ W n g) : CostR μ W' n g := fun s fm s0 s1 hs f0 f1 ha => by
  rw [h s fm s0 s1 hs f0 f1 ha]
  exact (rcV_congr (by omega) hW (fun _ _ _ => rfl) f0 f1 s0 s1).1
theorem sumV_bd {v : TV} (ok : TVok v) {s : Int} : 0 ≤ sumV v s ∧ sumV v s ≤ 792 := by
  have := sm_bd (f := fun a => if hasB s a = true then v 4 a else 0) (n := 8) (c := 0) (d := 99) (fun a a0 a1 => by
    have := (ok.2.2.2.1 a a0 a1).1
    show 0 ≤ (if hasB s a = true then v 4 a else 0) ∧ (if hasB s a = true then v 4 a else 0) ≤ 99
    split <;> omega) (by omega)
  unfold sumV
  omega
theorem coup_le {v : TV} (ok : TVok v) {s g : Int} (h : ∀ a : Int, 0 ≤ a → a < 8 → hasB s a = true → hasB g a = true) : 0 ≤ coupV v s ∧ coupV v s ≤ coupV v g := by
  have hc : ∀ a b : Int, 0 ≤ a → a < 8 → 0 ≤ b → b < 8 → 0 ≤ v 4 a * v 4 b := fun a b a0 a1 b0 b1 => Int.mul_nonneg (ok.2.2.2.1 a a0 a1).1.1 (ok.2.2.2.1 b b0 b1).1.1
  constructor
  · refine sm_nn (fun a a0 a1 => sm_nn (fun b b0 b1 => ?_) a0) (by omega)
    have := hc a b a0 a1 b0 (by omega)
    show 0 ≤ (if hasB s a = true ∧ hasB s b = true then v 4 a * v 4 b else 0)
    split <;> omega
  · refine sm_le (fun a a0 a1 => sm_le (fun b b0 b1 => ?_) a0) (by omega)
    have := hc a b a0 a1 b0 (by omega)
    show (if hasB s a = true ∧ hasB s b = true then v 4 a * v 4 b else 0) ≤ (if hasB g a = true ∧ hasB g b = true then v 4 a * v 4 b else 0)
    by_cases q : hasB s a = true ∧ hasB s b = true
    · rw [if_pos q, if_pos ⟨h a a0 a1 q.1, h b b0 (by omega) q.2⟩]; omega
    · rw [if_neg q]
      split <;> omega
theorem coup_bd {v : TV} (ok : TVok v) {s : Int} : 0 ≤ coupV v s ∧ coupV v s ≤ 274428 := by
  have h1 := (coup_le ok (s := s) (g := 255) (fun a a0 a1 _ => by
    have key : ∀ a : Nat, a < 8 → hasB 255 (a : Int) = true := by decide +kernel
    have := key a.toNat (by omega)
    rwa [Int.toNat_of_nonneg a0] at this))
  have h2 : coupV v 255 ≤ sm (fun a => sm (fun _ => 1 * 9801) a) 8 := by
    refine sm_le (fun a a0 a1 => sm_le (fun b b0 b1 => ?_) a0) (by omega)
    have ha := (ok.2.2.2.1 a a0 a1).1
    have hb := (ok.2.2.2.1 b b0 (by omega)).1
    have := mul_bd ha.1 ha.2 hb.1 hb.2
    show (if hasB 255 a = true ∧ hasB 255 b = true then v 4 a * v 4 b else 0) ≤ _
    split <;> omega
  have h3 : sm (fun a => sm (fun _ => 1 * 9801) a) 8 = 274428 := by decide +kernel
  omega
