/-! a town taken from the tape -/
theorem nt_ex {tx : Int → Int} {n : Int} (hn : 0 ≤ n) : ∃ nt : Int, (0 ≤ nt ∧ nt ≤ n) ∧ (∀ i : Int, 0 ≤ i → i < nt → stT tx n i < n) ∧ stT tx n nt = n := by
  have key : ∀ k : Int, 0 ≤ k → (∃ nt : Int, (0 ≤ nt ∧ nt ≤ n) ∧ (∀ i : Int, 0 ≤ i → i < nt → stT tx n i < n) ∧ stT tx n nt = n) ∨ ((∀ i : Int, 0 ≤ i → i < k → stT tx n i < n) ∧ k ≤ stT tx n k) := by
    refine nat_ind (Or.inr ⟨fun i i0 i1 => by omega, (stT_bd hn (Int.le_refl 0)).1⟩) (fun k k0 ih => ?_)
    rcases ih with ih | ⟨h1, h2⟩
    · exact Or.inl ih
    · have hb := stT_bd (tx := tx) hn k0
      by_cases c : stT tx n k < n
      · refine Or.inr ⟨fun i i0 i1 => ?_, ?_⟩
        · by_cases e : i = k
          · rw [e]; exact c
          · exact h1 i i0 (by omega)
        · have := stT_lt hn k0 c
          omega
      · exact Or.inl ⟨k, ⟨k0, by omega⟩, h1, by omega⟩
  rcases key (n + 1) (by omega) with h | ⟨_, h⟩
  · exact h
  · have := stT_bd (tx := tx) hn (i := n + 1) (by omega)
    omega
theorem read_congr {tx tx' : Int → Int} {n : Int} (hn : 0 ≤ n ∧ n ≤ 500) (h : ∀ j : Int, 0 ≤ j → j < n → tx' j = tx j) : readV tx' n = readV tx n := by
  have sk : ∀ p : Int, 0 ≤ p → skpT tx' p n = skpT tx p n := fun p p0 => runE_congr (fun i i0 i1 => congrArg isBl (h i i0 i1)) (n - p).toNat p (by omega) p0
  have en : ∀ p : Int, 0 ≤ p → p < n → endT tx' p n = endT tx p n := fun p p0 p1 => by
    unfold endT
    rw [h p p0 p1, runE_congr (q := fun i => isLet (tx' i)) (q' := fun i => isLet (tx i)) (fun i i0 i1 => congrArg isLet (h i i0 i1)) (n - (p + 1)).toNat (p + 1) (by omega) (by omega), runE_congr (q := fun i => isDig (tx' i)) (q' := fun i => isDig (tx i)) (fun i i0 i1 => congrArg isDig (h i i0 i1)) (n - (p + 1)).toNat (p + 1) (by omega) (by omega)]
  have po : ∀ i : Int, 0 ≤ i → posT tx' n i = posT tx n i := by
    refine nat_ind rfl (fun i i0 ih => ?_)
    have hb := posT_bd (tx := tx) hn.1 i i0
    rw [posT_s i0, posT_s i0, ih]
    unfold nxtT
    rw [sk _ hb.1]
    by_cases c : skpT tx (posT tx n i) n < n
    · rw [if_pos c, if_pos c]
      exact en _ (by have := skp_bd (tx := tx) hb.2; omega) c
    · rw [if_neg c, if_neg c]
  have st : ∀ i : Int, 0 ≤ i → stT tx' n i = stT tx n i := fun i i0 => by
    have hb := posT_bd (tx := tx) hn.1 i i0
    unfold stT
    rw [po i i0, sk _ hb.1]
  have sy : ∀ p q w : Int, 0 ≤ p → q ≤ n → sayT tx' p q w = sayT tx p q w := fun p q w p0 q1 => by
    unfold sayT
    by_cases c : q - p = (SN w.toNat : Int)
    · rw [allV_congr (q := fun i => decide (tx' (p + i) = SV w.toNat i)) (q' := fun i => decide (tx (p + i) = SV w.toNat i)) (n := (SN w.toNat : Int)) (fun i i0 i1 => by
        show decide (tx' (p + i) = SV w.toNat i) = decide (tx (p + i) = SV w.toNat i)
        rw [h (p + i) (by omega) (by omega)])]
    · rw [decide_eq_false c]; rfl
  have kd : ∀ p q : Int, 0 ≤ p → p < n → q ≤ n → kindT tx' p q = kindT tx p q := fun p q p0 p1 q1 => by
    unfold kindT
    rw [h p p0 p1, sy p q 1 p0 q1, sy p q 2 p0 q1, sy p q 3 p0 q1, sy p q 4 p0 q1, sy p q 5 p0 q1, sy p q 6 p0 q1, sy p q 7 p0 q1]
  have vl : ∀ p q : Int, 0 ≤ p → q ≤ n → valT tx' p q = valT tx p q := fun p q p0 q1 => by
    unfold valT
    exact fold_congr fun y i i0 i1 => by
      show y * 10 + (tx' (p + i) - 48) = y * 10 + (tx (p + i) - 48)
      rw [h (p + i) (by omega) (by omega)]
  have kk : ∀ i : Int, 0 ≤ i → KT tx' n i = KT tx n i := fun i i0 => by
    unfold KT
    rw [st i i0]
    by_cases c : stT tx n i < n
    · have b := stT_bd (tx := tx) hn.1 i0
      have e := endT_bd (tx := tx) c
      rw [if_pos c, if_pos c, en _ b.1 c, kd _ _ b.1 c e.2]
    · rw [if_neg c, if_neg c]
  obtain ⟨nt, hnt, hlt, hend⟩ := nt_ex (tx := tx) hn.1
  have kb : ∀ i : Int, 0 ≤ i → (KT tx n i ≠ 0 ↔ i < nt) ∧ (0 ≤ KT tx n i ∧ KT tx n i ≤ 10) := fun i i0 => by
    unfold KT
    by_cases c : i < nt
    · have := hlt i i0 c
      have kk := kindT_bd (tx := tx) (p := stT tx n i) (q := endT tx (stT tx n i) n)
      rw [if_pos this]
      exact ⟨⟨fun _ => c, fun _ => by omega⟩, by omega⟩
    · have := stT_end hn.1 hnt.1 (by omega : ¬ stT tx n nt < n) i (by omega)
      rw [if_neg (by omega)]
      exact ⟨⟨fun q => absurd rfl q, fun q => absurd q c⟩, by omega⟩
  refine text_congr (nt := nt) ⟨hnt.1, fun i i0 => ⟨kk i i0, kb i i0⟩, fun i i0 _ => st i i0, fun i i0 hk => ?_⟩ (by omega)
  have c := hlt i i0 ((kb i i0).1.mp (by rw [hk]; decide))
  have b := stT_bd (tx := tx) hn.1 i0
  unfold VT
  rw [st i i0, en _ b.1 c, vl _ _ b.1 (endT_bd (tx := tx) c).2]
theorem line_fbd {K S V : Int → Int} {p : Int} {v : TV} (p0 : 0 ≤ p) (hS : ∀ i : Int, 0 ≤ i → 0 ≤ S i ∧ S i ≤ 500) : (0 ≤ (lineV K S V p v).1.1 ∧ (lineV K S V p v).1.1 ≤ 6) ∧ (0 ≤ (lineV K S V p v).1.2 ∧ (lineV K S V p v).1.2 ≤ 500) := by
  have h0 := hS p p0
  have h1 := hS (p + 1) (by omega)
  have h2 := hS (p + 2) (by omega)
  have h3 := hS (p + 3) (by omega)
  unfold lineV lanV plcV onlV
  repeat' split
  all_goals (dsimp only; omega)
theorem lines_fbd {K S V : Int → Int} (hS : ∀ i : Int, 0 ≤ i → 0 ≤ S i ∧ S i ≤ 500) : ∀ (f : Nat) (p ln : Int) (v : TV), 0 ≤ p → (0 ≤ (linesV K S V f p ln v).1.1 ∧ (linesV K S V f p ln v).1.1 ≤ 6) ∧ (0 ≤ (linesV K S V f p ln v).1.2 ∧ (linesV K S V f p ln v).1.2 ≤ 500)
  | 0, p, ln, v, p0 => ⟨⟨Int.le_refl 0, by show (0 : Int) ≤ 6; omega⟩, ⟨Int.le_refl 0, by show (0 : Int) ≤ 500; omega⟩⟩
  | f + 1, p, ln, v, p0 => by
    have h0 := hS p p0
    have hl := line_fbd (K := K) (S := S) (V := V) (v := v) p0 hS
    have nb := nbK_bd (k := K p)
    have ih := lines_fbd (K := K) (S := S) (V := V) hS f (p + 2 + nbK (K p)) (ln + 1) (lineV K S V p v).2 (by omega)
    unfold linesV
    split
    · dsimp only; omega
    · split
      · dsimp only; omega
      · split
        · exact hl
        · exact ih
theorem text_fbd {K S V : Int → Int} {L : Int} (hL : 0 ≤ L ∧ L ≤ 500) (hS : ∀ i : Int, 0 ≤ i → 0 ≤ S i ∧ S i ≤ 500) : (0 ≤ (textV K S V L).1.1 ∧ (textV K S V L).1.1 ≤ 6) ∧ (0 ≤ (textV K S V L).1.2 ∧ (textV K S V L).1.2 ≤ 500) := by
  have hl := lines_fbd (K := K) (S := S) (V := V) hS 502 3 0 (begV (V 1)) (by omega)
  have h1 := hS 1 (by omega)
  unfold textV
  split
  · rename_i c
    have := hS _ c
    dsimp only; omega
  · split
    · dsimp only; omega
    · split
      · exact hl
      · unfold endV
        repeat' split
        all_goals (dsimp only; omega)
theorem end_nz {v : TV} {L : Int} (h : (endV v L).1.1 = 0) : (endV v L).2 = v ∧ sm (v 4) (v 0 0) ≠ 0 := by
  unfold endV at h ⊢
  split at h
  · exact absurd (show (4 : Int) = 0 from h) (by decide)
  · rename_i c1
    rw [if_neg c1]
    split at h
    · exact absurd (show (5 : Int) = 0 from h) (by decide)
    · rename_i c2
      rw [if_neg c2]
      split at h
      · exact absurd (show (6 : Int) = 0 from h) (by decide)
      · rename_i c3
        rw [if_neg c3]
        exact ⟨rfl, c1⟩
theorem text_nz {K S V : Int → Int} {L : Int} (h : (textV K S V L).1.1 = 0) : sm ((textV K S V L).2 4) ((textV K S V L).2 0 0) ≠ 0 := by
  unfold textV at h ⊢
  split at h
  · exact absurd (show (1 : Int) = 0 from h) (by decide)
  · rename_i c1
    rw [if_neg c1]
    split at h
    · exact absurd (show (2 : Int) = 0 from h) (by decide)
    · rename_i c2
      rw [if_neg c2]
      split at h
      · rename_i c3
        exact absurd h c3
      · rename_i c3
        rw [if_neg c3]
        have := end_nz h
        rw [this.1]
        exact this.2
theorem tv_mark {μ m : Mem} {t : Int} (h0 : ∀ f : Int, f ≠ 0 → m t f = μ t f) (h : ∀ z : Int, t < z → z ≤ t + 9 → m z = μ z) : tv m t = tv μ t := by
  have q1 := h0 1 (by omega)
  have q2 := h0 2 (by omega)
  have q5 := h0 5 (by omega)
  have q6 := h0 6 (by omega)
  have q12 := h0 12 (by omega)
  have q16 := h0 16 (by omega)
  have z1 := h (t + 1) (by omega) (by omega)
  have z3 := h (t + 3) (by omega) (by omega)
  have z4 := h (t + 4) (by omega) (by omega)
  have z5 := h (t + 5) (by omega) (by omega)
  have z6 := h (t + 6) (by omega) (by omega)
  have z7 := h (t + 7) (by omega) (by omega)
  have z8 := h (t + 8) (by omega) (by omega)
  have z9 := h (t + 9) (by omega) (by omega)
  funext f
  match f with
  | 0 => show (fun _ => m t 1) = (fun _ => μ t 1); rw [q1]
  | 1 => show (fun _ => m t 2) = (fun _ => μ t 2); rw [q2]
  | 2 => show (fun _ => m t 5) = (fun _ => μ t 5); rw [q5]
  | 3 => show (fun _ => m t 6) = (fun _ => μ t 6); rw [q6]
  | 4 => show clip 8 (m (t + 3)) = clip 8 (μ (t + 3)); rw [z3]
  | 5 => show clip 8 (m (t + 4)) = clip 8 (μ (t + 4)); rw [z4]
  | 6 => show clip 8 (m (t + 5)) = clip 8 (μ (t + 5)); rw [z5]
  | 7 => show clip 64 (m (t + 1)) = clip 64 (μ (t + 1)); rw [z1]
  | 8 => show (fun _ => m t 12) = (fun _ => μ t 12); rw [q12]
  | 9 => show clip (m t 12) (m (t + 7)) = clip (μ t 12) (μ (t + 7)); rw [q12, z7]
  | 10 => show clip (m t 12) (m (t + 8)) = clip (μ t 12) (μ (t + 8)); rw [q12, z8]
  | 11 =>
    show (fun j => if 0 ≤ j ∧ j / 16 < m t 12 ∧ j % 16 < m (t + 7) (j / 16) then m (t + 6) j else 0) = (fun j => if 0 ≤ j ∧ j / 16 < μ t 12 ∧ j % 16 < μ (t + 7) (j / 16) then μ (t + 6) j else 0)
    rw [q12, z7, z6]
  | 12 => show (fun _ => m t 16) = (fun _ => μ t 16); rw [q16]
  | n + 13 => show clip (m t 16) (m (t + 9)) = clip (μ t 16) (μ (t + 9)); rw [q16, z9]
/-- the tape, a byte as Java has it -/
def byS (tx : Int → Int) : Int → Int := fun j => Int.bmod (tx j) 256
noncomputable def tellV (s : STt) : (Int × Int) × TV := readV (byS s.1.1) (s.1.2.1 0)
def clrN (s : STt) (a b : Int) : Int → Int := upd1 (upd1 (upd1 s.1.2.1 0 0) 1 a) 2 b
noncomputable def townS (s : STt) (k : Int) : STt × Int := if ¬ ((k = -1 ∧ s.1.2.1 3 < 3) ∨ (0 ≤ k ∧ k < s.1.2.1 3)) then ((((fun _ => 0), clrN s 0 (-1), s.1.2.2), s.2), -2) else
  if (tellV s).1.1 ≠ 0 then ((((fun _ => 0), clrN s (tellV s).1.1 (tellV s).1.2, s.1.2.2), s.2), -1) else
  ((((fun _ => 0), upd1 (clrN s 0 (-1)) 3 (if k = -1 then s.1.2.1 3 + 1 else s.1.2.1 3), fun i => if i = (if k = -1 then s.1.2.1 3 else k) then (tellV s).2 else s.1.2.2 i), s.2), if k = -1 then s.1.2.1 3 else k)
def P_X10_town (o k : Int) (μ : Mem) : Prop := o = 0 ∧ (∃ c, c ≤ 999 ∧ CI c μ) ∧ r32 k
def Q_X10_town (_ k : Int) (μ μ' : Mem) (r : Int) : Prop := Chg1 (townS (stC μ) k) μ μ' r
def S_X10_town : S0t := fun as μ Q => match as with
  | [(2, x0), (0, x1)] => P_X10_town x0 x1 μ ∧ ∀ (μ' : Mem) (r : Int), Q_X10_town x0 x1 μ μ' r → Q μ' (some (kI r))
  | _ => False
theorem mono_X10_town : Mono S_X10_town := by
  intro as μ Q Q' h hS
  unfold S_X10_town at hS ⊢
  split at hS
  · exact ⟨hS.1, fun μ' r q => h _ _ (hS.2 _ _ q)⟩
  · exact hS.elim
def iX10_town : Inf := (kX10_town, fTX10, pTX10, cTX10, lTX10, sTX10, [(118, 0, 3, 5, S_X5_read), (110, 0, 1, 9, S_X9_townAt), (129, 0, 1, 7, S_X7_copyFrom)])
theorem ok_X10_town : infOK iX10_town mX10_town RX10 6 141 := ⟨kkX10_town, fTX10_ok, pTX10_ok _, cTX10_ok, lTX10_ok, sTX10_ok, c_cons ⟨mX5_read, 5, 118, ct_X5_read, mmX5_read, vvX5_read, lkX10_118, ⟨by decide, by decide⟩, ⟨_, _, rfl⟩, by decide, mono_X5_read⟩ (c_cons ⟨mX9_townAt, 0, 0, ct_X9_townAt, mmX9_townAt, vvX9_townAt, lkX10_110, ⟨by decide, by decide⟩, ⟨_, _, rfl⟩, by decide, mono_X9_townAt⟩ (c_cons ⟨mX7_copyFrom, 1, 60, ct_X7_copyFrom, mmX7_copyFrom, vvX7_copyFrom, lkX10_129, ⟨by decide, by decide⟩, ⟨_, _, rfl⟩, by decide, mono_X7_copyFrom⟩ (c_nil)))⟩
theorem mt_X10_town : mtOK [] RX10 6 141 := mt_nil
abbrev V_X10_town (R : Mem → Option AV → Prop) (pc : Nat) (lc : List (Nat × AV)) (μ : Mem) : Prop := VM mX10_town RX10 6 141 R pc lc [] μ
set_option maxRecDepth 20000 in
theorem vc_X10_town_0 {R : Mem → Option AV → Prop} {k : Int} {μ : Mem} (H : V_X10_town R 16 [(0, kR 0), (1, kI k), (2, kI (μ 1 2))] (updm μ 1 2 0)) : V_X10_town R 0 [(0, kR 0), (1, kI k)] μ := by
  refine vm_step2 mt_X10_town ok_X10_town [(16, [0, 1, 2]), (24, [0, 1, 2]), (32, [0, 1, 2]), (125, [0]), (139, []), (151, [0, 3, 4]), (162, [0, 3, 4]), (179, [0, 4]), (207, [4])] 1000 ?_
  show isC 0 10 ∧ isC 1 9 ∧ isC 0 10 ∧ isC 1 9 ∧ 0 = 0 ∧ True ∧ V_X10_town R 16 [(0, kR 0), (1, kI k), (2, kI (μ 1 2))] (updm μ 1 2 0)
  exact ⟨c_0, ⟨c_1, ⟨c_0, ⟨c_1, rfl, trivial, H⟩⟩⟩⟩
set_option maxRecDepth 20000 in
theorem vc_X10_town_16 {R : Mem → Option AV → Prop} {k ln : Int} {μ : Mem} (H : V_X10_town R 24 [(0, kR 0), (1, kI k), (2, kI ln)] (updm μ 1 3 0)) : V_X10_town R 16 [(0, kR 0), (1, kI k), (2, kI ln)] μ := by
  refine vm_step2 mt_X10_town ok_X10_town [(16, [0, 1, 2]), (24, [0, 1, 2]), (32, [0, 1, 2]), (125, [0]), (139, []), (151, [0, 3, 4]), (162, [0, 3, 4]), (179, [0, 4]), (207, [4])] 1000 ?_
  show isC 0 10 ∧ isC 1 9 ∧ 0 = 0 ∧ True ∧ V_X10_town R 24 [(0, kR 0), (1, kI k), (2, kI ln)] (updm μ 1 3 0)
  exact ⟨c_0, ⟨c_1, rfl, trivial, H⟩⟩
set_option maxRecDepth 20000 in
theorem vc_X10_town_24 {R : Mem → Option AV → Prop} {k ln : Int} {μ : Mem} (H : V_X10_town R 32 [(0, kR 0), (1, kI k), (2, kI ln)] (updm μ 1 4 (-1))) : V_X10_town R 24 [(0, kR 0), (1, kI k), (2, kI ln)] μ := by
  refine vm_step2 mt_X10_town ok_X10_town [(16, [0, 1, 2]), (24, [0, 1, 2]), (32, [0, 1, 2]), (125, [0]), (139, []), (151, [0, 3, 4]), (162, [0, 3, 4]), (179, [0, 4]), (207, [4])] 1000 ?_
  show isC 0 10 ∧ isC 1 9 ∧ 0 = 0 ∧ True ∧ V_X10_town R 32 [(0, kR 0), (1, kI k), (2, kI ln)] (updm μ 1 4 (-1))
  exact ⟨c_0, ⟨c_1, rfl, trivial, H⟩⟩
set_option maxRecDepth 20000 in
theorem vc_X10_town_32 {R : Mem → Option AV → Prop} {k ln : Int} {μ : Mem} (H : r32 k ∧ ((¬ k = (-1 : Int)) → P_X9_townAt 1 k μ ∧ (∀ (rv6 : Int), Q_X9_townAt 1 k μ rv6 → (rv6 < 0 → R μ (some (kI (-2)))) ∧ (¬ rv6 < 0 → P_X5_read 145 2 ln 135 μ ∧ (∀ (μ8 : Mem) (rv9 : Int), Q_X5_read 145 2 ln 135 μ μ8 rv9 → r32 rv9 ∧ ((¬ rv9 = 0) → V_X10_town R 151 [(0, kR 0), (3, kI 0), (4, kI k)] (updm μ8 0 13 ((μ8 0 13) + 1))) ∧ (¬ (¬ rv9 = 0) → V_X10_town R 125 [(0, kR 0)] (updm μ8 1 3 (μ8 145 4))))))) ∧ (¬ (¬ k = (-1 : Int)) → r32 (μ 1 5) ∧ (((3 : Int) ≤ (μ 1 5)) → P_X9_townAt 1 k μ ∧ (∀ (rv33 : Int), Q_X9_townAt 1 k μ rv33 → (rv33 < 0 → R μ (some (kI (-2)))) ∧ (¬ rv33 < 0 → P_X5_read 145 2 ln 135 μ ∧ (∀ (μ35 : Mem) (rv36 : Int), Q_X5_read 145 2 ln 135 μ μ35 rv36 → r32 rv36 ∧ ((¬ rv36 = 0) → V_X10_town R 151 [(0, kR 0), (3, kI 0), (4, kI k)] (updm μ35 0 13 ((μ35 0 13) + 1))) ∧ (¬ (¬ rv36 = 0) → V_X10_town R 125 [(0, kR 0)] (updm μ35 1 3 (μ35 145 4))))))) ∧ (¬ ((3 : Int) ≤ (μ 1 5)) → P_X5_read 145 2 ln 135 μ ∧ (∀ (μ68 : Mem) (rv69 : Int), Q_X5_read 145 2 ln 135 μ μ68 rv69 → r32 rv69 ∧ ((¬ rv69 = 0) → V_X10_town R 151 [(0, kR 0), (3, kI 1), (4, kI (μ 1 5))] (updm μ68 0 13 ((μ68 0 13) + 1))) ∧ (¬ (¬ rv69 = 0) → V_X10_town R 125 [(0, kR 0)] (updm μ68 1 3 (μ68 145 4))))))) : V_X10_town R 32 [(0, kR 0), (1, kI k), (2, kI ln)] μ := by
  refine vm_step2 mt_X10_town ok_X10_town [(16, [0, 1, 2]), (24, [0, 1, 2]), (32, [0, 1, 2]), (125, [0]), (139, []), (151, [0, 3, 4]), (162, [0, 3, 4]), (179, [0, 4]), (207, [4])] 1000 ?_
  show (r32 k ∧ r32 (-1 : Int)) ∧ ((¬ k = (-1 : Int)) → r32 (0 : Int) ∧ (((0 : Int) = 0) → r32 (0 : Int) ∧ ((¬ (0 : Int) = 0) → isC 0 10 ∧ isC 0 10 ∧ isC 1 9 ∧ isC 0 10 ∧ isC 145 5 ∧ P_X5_read 145 2 ln 135 μ ∧ (∀ (μ1 : Mem) (rv2 : Int), Q_X5_read 145 2 ln 135 μ μ1 rv2 → r32 rv2 ∧ ((¬ rv2 = 0) → isC 0 10 ∧ isC 0 10 ∧ 0 = 0 ∧ True ∧ V_X10_town R 151 [(0, kR 0), (3, kI 0), (4, kI k)] (updm μ1 0 13 ((μ1 0 13) + 1))) ∧ (¬ (¬ rv2 = 0) → isC 0 10 ∧ isC 0 10 ∧ isC 145 5 ∧ isC 1 9 ∧ 0 = 0 ∧ True ∧ V_X10_town R 125 [(0, kR 0)] (updm μ1 1 3 (μ1 145 4))))) ∧ (¬ (¬ (0 : Int) = 0) → isC 0 10 ∧ isC 1 9 ∧ P_X9_townAt 1 k μ ∧ (∀ (rv6 : Int), Q_X9_townAt 1 k μ rv6 → (¬ rv6 < 0 → isC 0 10 ∧ isC 0 10 ∧ isC 1 9 ∧ isC 0 10 ∧ isC 145 5 ∧ P_X5_read 145 2 ln 135 μ ∧ (∀ (μ8 : Mem) (rv9 : Int), Q_X5_read 145 2 ln 135 μ μ8 rv9 → r32 rv9 ∧ ((¬ rv9 = 0) → isC 0 10 ∧ isC 0 10 ∧ 0 = 0 ∧ True ∧ V_X10_town R 151 [(0, kR 0), (3, kI 0), (4, kI k)] (updm μ8 0 13 ((μ8 0 13) + 1))) ∧ (¬ (¬ rv9 = 0) → isC 0 10 ∧ isC 0 10 ∧ isC 145 5 ∧ isC 1 9 ∧ 0 = 0 ∧ True ∧ V_X10_town R 125 [(0, kR 0)] (updm μ8 1 3 (μ8 145 4))))) ∧ (rv6 < 0 → R μ (some (kI (-2))))))) ∧ (¬ ((0 : Int) = 0) → isC 0 10 ∧ isC 1 9 ∧ r32 (0 : Int) ∧ ((¬ (0 : Int) = 0) → isC 0 10 ∧ isC 0 10 ∧ isC 1 9 ∧ isC 0 10 ∧ isC 145 5 ∧ P_X5_read 145 2 ln 135 μ ∧ (∀ (μ14 : Mem) (rv15 : Int), Q_X5_read 145 2 ln 135 μ μ14 rv15 → r32 rv15 ∧ ((¬ rv15 = 0) → isC 0 10 ∧ isC 0 10 ∧ 0 = 0 ∧ True ∧ V_X10_town R 151 [(0, kR 0), (3, kI 0), (4, kI (μ 1 5))] (updm μ14 0 13 ((μ14 0 13) + 1))) ∧ (¬ (¬ rv15 = 0) → isC 0 10 ∧ isC 0 10 ∧ isC 145 5 ∧ isC 1 9 ∧ 0 = 0 ∧ True ∧ V_X10_town R 125 [(0, kR 0)] (updm μ14 1 3 (μ14 145 4))))) ∧ (¬ (¬ (0 : Int) = 0) → isC 0 10 ∧ isC 1 9 ∧ P_X9_townAt 1 k μ ∧ (∀ (rv19 : Int), Q_X9_townAt 1 k μ rv19 → (¬ rv19 < 0 → isC 0 10 ∧ isC 0 10 ∧ isC 1 9 ∧ isC 0 10 ∧ isC 145 5 ∧ P_X5_read 145 2 ln 135 μ ∧ (∀ (μ21 : Mem) (rv22 : Int), Q_X5_read 145 2 ln 135 μ μ21 rv22 → r32 rv22 ∧ ((¬ rv22 = 0) → isC 0 10 ∧ isC 0 10 ∧ 0 = 0 ∧ True ∧ V_X10_town R 151 [(0, kR 0), (3, kI 0), (4, kI (μ 1 5))] (updm μ21 0 13 ((μ21 0 13) + 1))) ∧ (¬ (¬ rv22 = 0) → isC 0 10 ∧ isC 0 10 ∧ isC 145 5 ∧ isC 1 9 ∧ 0 = 0 ∧ True ∧ V_X10_town R 125 [(0, kR 0)] (updm μ21 1 3 (μ21 145 4))))) ∧ (rv19 < 0 → R μ (some (kI (-2)))))))) ∧ (¬ (¬ k = (-1 : Int)) → isC 0 10 ∧ isC 1 9 ∧ (r32 (μ 1 5) ∧ r32 (3 : Int)) ∧ (((3 : Int) ≤ (μ 1 5)) → r32 (0 : Int) ∧ (((0 : Int) = 0) → r32 (0 : Int) ∧ ((¬ (0 : Int) = 0) → isC 0 10 ∧ isC 0 10 ∧ isC 1 9 ∧ isC 0 10 ∧ isC 145 5 ∧ P_X5_read 145 2 ln 135 μ ∧ (∀ (μ28 : Mem) (rv29 : Int), Q_X5_read 145 2 ln 135 μ μ28 rv29 → r32 rv29 ∧ ((¬ rv29 = 0) → isC 0 10 ∧ isC 0 10 ∧ 0 = 0 ∧ True ∧ V_X10_town R 151 [(0, kR 0), (3, kI 0), (4, kI k)] (updm μ28 0 13 ((μ28 0 13) + 1))) ∧ (¬ (¬ rv29 = 0) → isC 0 10 ∧ isC 0 10 ∧ isC 145 5 ∧ isC 1 9 ∧ 0 = 0 ∧ True ∧ V_X10_town R 125 [(0, kR 0)] (updm μ28 1 3 (μ28 145 4))))) ∧ (¬ (¬ (0 : Int) = 0) → isC 0 10 ∧ isC 1 9 ∧ P_X9_townAt 1 k μ ∧ (∀ (rv33 : Int), Q_X9_townAt 1 k μ rv33 → (¬ rv33 < 0 → isC 0 10 ∧ isC 0 10 ∧ isC 1 9 ∧ isC 0 10 ∧ isC 145 5 ∧ P_X5_read 145 2 ln 135 μ ∧ (∀ (μ35 : Mem) (rv36 : Int), Q_X5_read 145 2 ln 135 μ μ35 rv36 → r32 rv36 ∧ ((¬ rv36 = 0) → isC 0 10 ∧ isC 0 10 ∧ 0 = 0 ∧ True ∧ V_X10_town R 151 [(0, kR 0), (3, kI 0), (4, kI k)] (updm μ35 0 13 ((μ35 0 13) + 1))) ∧ (¬ (¬ rv36 = 0) → isC 0 10 ∧ isC 0 10 ∧ isC 145 5 ∧ isC 1 9 ∧ 0 = 0 ∧ True ∧ V_X10_town R 125 [(0, kR 0)] (updm μ35 1 3 (μ35 145 4))))) ∧ (rv33 < 0 → R μ (some (kI (-2))))))) ∧ (¬ ((0 : Int) = 0) → isC 0 10 ∧ isC 1 9 ∧ r32 (0 : Int) ∧ ((¬ (0 : Int) = 0) → isC 0 10 ∧ isC 0 10 ∧ isC 1 9 ∧ isC 0 10 ∧ isC 145 5 ∧ P_X5_read 145 2 ln 135 μ ∧ (∀ (μ41 : Mem) (rv42 : Int), Q_X5_read 145 2 ln 135 μ μ41 rv42 → r32 rv42 ∧ ((¬ rv42 = 0) → isC 0 10 ∧ isC 0 10 ∧ 0 = 0 ∧ True ∧ V_X10_town R 151 [(0, kR 0), (3, kI 0), (4, kI (μ 1 5))] (updm μ41 0 13 ((μ41 0 13) + 1))) ∧ (¬ (¬ rv42 = 0) → isC 0 10 ∧ isC 0 10 ∧ isC 145 5 ∧ isC 1 9 ∧ 0 = 0 ∧ True ∧ V_X10_town R 125 [(0, kR 0)] (updm μ41 1 3 (μ41 145 4))))) ∧ (¬ (¬ (0 : Int) = 0) → isC 0 10 ∧ isC 1 9 ∧ P_X9_townAt 1 k μ ∧ (∀ (rv46 : Int), Q_X9_townAt 1 k μ rv46 → (¬ rv46 < 0 → isC 0 10 ∧ isC 0 10 ∧ isC 1 9 ∧ isC 0 10 ∧ isC 145 5 ∧ P_X5_read 145 2 ln 135 μ ∧ (∀ (μ48 : Mem) (rv49 : Int), Q_X5_read 145 2 ln 135 μ μ48 rv49 → r32 rv49 ∧ ((¬ rv49 = 0) → isC 0 10 ∧ isC 0 10 ∧ 0 = 0 ∧ True ∧ V_X10_town R 151 [(0, kR 0), (3, kI 0), (4, kI (μ 1 5))] (updm μ48 0 13 ((μ48 0 13) + 1))) ∧ (¬ (¬ rv49 = 0) → isC 0 10 ∧ isC 0 10 ∧ isC 145 5 ∧ isC 1 9 ∧ 0 = 0 ∧ True ∧ V_X10_town R 125 [(0, kR 0)] (updm μ48 1 3 (μ48 145 4))))) ∧ (rv46 < 0 → R μ (some (kI (-2)))))))) ∧ (¬ ((3 : Int) ≤ (μ 1 5)) → r32 (1 : Int) ∧ (((1 : Int) = 0) → r32 (1 : Int) ∧ ((¬ (1 : Int) = 0) → isC 0 10 ∧ isC 0 10 ∧ isC 1 9 ∧ isC 0 10 ∧ isC 145 5 ∧ P_X5_read 145 2 ln 135 μ ∧ (∀ (μ55 : Mem) (rv56 : Int), Q_X5_read 145 2 ln 135 μ μ55 rv56 → r32 rv56 ∧ ((¬ rv56 = 0) → isC 0 10 ∧ isC 0 10 ∧ 0 = 0 ∧ True ∧ V_X10_town R 151 [(0, kR 0), (3, kI 1), (4, kI k)] (updm μ55 0 13 ((μ55 0 13) + 1))) ∧ (¬ (¬ rv56 = 0) → isC 0 10 ∧ isC 0 10 ∧ isC 145 5 ∧ isC 1 9 ∧ 0 = 0 ∧ True ∧ V_X10_town R 125 [(0, kR 0)] (updm μ55 1 3 (μ55 145 4))))) ∧ (¬ (¬ (1 : Int) = 0) → isC 0 10 ∧ isC 1 9 ∧ P_X9_townAt 1 k μ ∧ (∀ (rv60 : Int), Q_X9_townAt 1 k μ rv60 → (¬ rv60 < 0 → isC 0 10 ∧ isC 0 10 ∧ isC 1 9 ∧ isC 0 10 ∧ isC 145 5 ∧ P_X5_read 145 2 ln 135 μ ∧ (∀ (μ62 : Mem) (rv63 : Int), Q_X5_read 145 2 ln 135 μ μ62 rv63 → r32 rv63 ∧ ((¬ rv63 = 0) → isC 0 10 ∧ isC 0 10 ∧ 0 = 0 ∧ True ∧ V_X10_town R 151 [(0, kR 0), (3, kI 1), (4, kI k)] (updm μ62 0 13 ((μ62 0 13) + 1))) ∧ (¬ (¬ rv63 = 0) → isC 0 10 ∧ isC 0 10 ∧ isC 145 5 ∧ isC 1 9 ∧ 0 = 0 ∧ True ∧ V_X10_town R 125 [(0, kR 0)] (updm μ62 1 3 (μ62 145 4))))) ∧ (rv60 < 0 → R μ (some (kI (-2))))))) ∧ (¬ ((1 : Int) = 0) → isC 0 10 ∧ isC 1 9 ∧ r32 (1 : Int) ∧ ((¬ (1 : Int) = 0) → isC 0 10 ∧ isC 0 10 ∧ isC 1 9 ∧ isC 0 10 ∧ isC 145 5 ∧ P_X5_read 145 2 ln 135 μ ∧ (∀ (μ68 : Mem) (rv69 : Int), Q_X5_read 145 2 ln 135 μ μ68 rv69 → r32 rv69 ∧ ((¬ rv69 = 0) → isC 0 10 ∧ isC 0 10 ∧ 0 = 0 ∧ True ∧ V_X10_town R 151 [(0, kR 0), (3, kI 1), (4, kI (μ 1 5))] (updm μ68 0 13 ((μ68 0 13) + 1))) ∧ (¬ (¬ rv69 = 0) → isC 0 10 ∧ isC 0 10 ∧ isC 145 5 ∧ isC 1 9 ∧ 0 = 0 ∧ True ∧ V_X10_town R 125 [(0, kR 0)] (updm μ68 1 3 (μ68 145 4))))) ∧ (¬ (¬ (1 : Int) = 0) → isC 0 10 ∧ isC 1 9 ∧ P_X9_townAt 1 k μ ∧ (∀ (rv73 : Int), Q_X9_townAt 1 k μ rv73 → (¬ rv73 < 0 → isC 0 10 ∧ isC 0 10 ∧ isC 1 9 ∧ isC 0 10 ∧ isC 145 5 ∧ P_X5_read 145 2 ln 135 μ ∧ (∀ (μ75 : Mem) (rv76 : Int), Q_X5_read 145 2 ln 135 μ μ75 rv76 → r32 rv76 ∧ ((¬ rv76 = 0) → isC 0 10 ∧ isC 0 10 ∧ 0 = 0 ∧ True ∧ V_X10_town R 151 [(0, kR 0), (3, kI 1), (4, kI (μ 1 5))] (updm μ75 0 13 ((μ75 0 13) + 1))) ∧ (¬ (¬ rv76 = 0) → isC 0 10 ∧ isC 0 10 ∧ isC 145 5 ∧ isC 1 9 ∧ 0 = 0 ∧ True ∧ V_X10_town R 125 [(0, kR 0)] (updm μ75 1 3 (μ75 145 4))))) ∧ (rv73 < 0 → R μ (some (kI (-2)))))))))
  exact ⟨⟨H.1, by unfold r32; omega⟩, fun hc83 => ⟨by unfold r32; omega, fun _ => ⟨by unfold r32; omega, fun q => absurd q (by omega), fun _ => ⟨c_0, ⟨c_1, (H.2.1 hc83).1, fun rv6 hq7 => ⟨fun hz12 => have h_rv6 := hq7.2.2 hz12; ⟨c_0, ⟨c_0, ⟨c_1, ⟨c_0, ⟨c_145, (((H.2.1 hc83).2 rv6 hq7).2 hz12).1, fun μ8 rv9 hq10 => ⟨((((H.2.1 hc83).2 rv6 hq7).2 hz12).2 μ8 rv9 hq10).1, fun hc11 => ⟨c_0, ⟨c_0, rfl, trivial, (((((H.2.1 hc83).2 rv6 hq7).2 hz12).2 μ8 rv9 hq10).2.1 hc11)⟩⟩, fun hc11 => ⟨c_0, ⟨c_0, ⟨c_145, ⟨c_1, rfl, trivial, (((((H.2.1 hc83).2 rv6 hq7).2 hz12).2 μ8 rv9 hq10).2.2 hc11)⟩⟩⟩⟩⟩⟩⟩⟩⟩⟩, fun hz12 => (((H.2.1 hc83).2 rv6 hq7).1 hz12)⟩⟩⟩⟩, fun q => absurd (by omega) q⟩, fun hc83 => ⟨c_0, ⟨c_1, ⟨⟨(H.2.2 hc83).1, by unfold r32; omega⟩, fun hc82 => ⟨by unfold r32; omega, fun _ => ⟨by unfold r32; omega, fun q => absurd q (by omega), fun _ => ⟨c_0, ⟨c_1, ((H.2.2 hc83).2.1 hc82).1, fun rv33 hq34 => ⟨fun hz39 => have h_rv33 := hq34.2.2 hz39; ⟨c_0, ⟨c_0, ⟨c_1, ⟨c_0, ⟨c_145, ((((H.2.2 hc83).2.1 hc82).2 rv33 hq34).2 hz39).1, fun μ35 rv36 hq37 => ⟨(((((H.2.2 hc83).2.1 hc82).2 rv33 hq34).2 hz39).2 μ35 rv36 hq37).1, fun hc38 => ⟨c_0, ⟨c_0, rfl, trivial, ((((((H.2.2 hc83).2.1 hc82).2 rv33 hq34).2 hz39).2 μ35 rv36 hq37).2.1 hc38)⟩⟩, fun hc38 => ⟨c_0, ⟨c_0, ⟨c_145, ⟨c_1, rfl, trivial, ((((((H.2.2 hc83).2.1 hc82).2 rv33 hq34).2 hz39).2 μ35 rv36 hq37).2.2 hc38)⟩⟩⟩⟩⟩⟩⟩⟩⟩⟩, fun hz39 => ((((H.2.2 hc83).2.1 hc82).2 rv33 hq34).1 hz39)⟩⟩⟩⟩, fun q => absurd (by omega) q⟩, fun hc82 => ⟨by unfold r32; omega, fun q => absurd q (by omega), fun _ => ⟨c_0, ⟨c_1, ⟨by unfold r32; omega, fun _ => ⟨c_0, ⟨c_0, ⟨c_1, ⟨c_0, ⟨c_145, ((H.2.2 hc83).2.2 hc82).1, fun μ68 rv69 hq70 => ⟨(((H.2.2 hc83).2.2 hc82).2 μ68 rv69 hq70).1, fun hc71 => ⟨c_0, ⟨c_0, rfl, trivial, ((((H.2.2 hc83).2.2 hc82).2 μ68 rv69 hq70).2.1 hc71)⟩⟩, fun hc71 => ⟨c_0, ⟨c_0, ⟨c_145, ⟨c_1, rfl, trivial, ((((H.2.2 hc83).2.2 hc82).2 μ68 rv69 hq70).2.2 hc71)⟩⟩⟩⟩⟩⟩⟩⟩⟩⟩, fun q => absurd (by omega) q⟩⟩⟩⟩⟩⟩⟩⟩
set_option maxRecDepth 20000 in
theorem vc_X10_town_125 {R : Mem → Option AV → Prop} {μ : Mem} (H : V_X10_town R 139 [] (updm μ 1 4 (μ 145 5))) : V_X10_town R 125 [(0, kR 0)] μ := by
  refine vm_step2 mt_X10_town ok_X10_town [(16, [0, 1, 2]), (24, [0, 1, 2]), (32, [0, 1, 2]), (125, [0]), (139, []), (151, [0, 3, 4]), (162, [0, 3, 4]), (179, [0, 4]), (207, [4])] 1000 ?_
  show isC 0 10 ∧ isC 0 10 ∧ isC 145 5 ∧ isC 1 9 ∧ 0 = 0 ∧ True ∧ V_X10_town R 139 [] (updm μ 1 4 (μ 145 5))
  exact ⟨c_0, ⟨c_0, ⟨c_145, ⟨c_1, rfl, trivial, H⟩⟩⟩⟩
set_option maxRecDepth 20000 in
theorem vc_X10_town_139 {R : Mem → Option AV → Prop} {μ : Mem} (H : R μ (some (kI (-1)))) : V_X10_town R 139 [] μ := by
  refine vm_step2 mt_X10_town ok_X10_town [(16, [0, 1, 2]), (24, [0, 1, 2]), (32, [0, 1, 2]), (125, [0]), (139, []), (151, [0, 3, 4]), (162, [0, 3, 4]), (179, [0, 4]), (207, [4])] 1000 ?_
  show R μ (some (kI (-1)))
  exact H
set_option maxRecDepth 20000 in
theorem vc_X10_town_151 {R : Mem → Option AV → Prop} {fu nu : Int} {μ : Mem} (H : V_X10_town R 162 [(0, kR 0), (3, kI fu), (4, kI nu)] (updm μ 135 0 (μ 0 13))) : V_X10_town R 151 [(0, kR 0), (3, kI fu), (4, kI nu)] μ := by
  refine vm_step2 mt_X10_town ok_X10_town [(16, [0, 1, 2]), (24, [0, 1, 2]), (32, [0, 1, 2]), (125, [0]), (139, []), (151, [0, 3, 4]), (162, [0, 3, 4]), (179, [0, 4]), (207, [4])] 1000 ?_
  show isC 0 10 ∧ isC 0 10 ∧ isC 135 7 ∧ 0 = 0 ∧ True ∧ V_X10_town R 162 [(0, kR 0), (3, kI fu), (4, kI nu)] (updm μ 135 0 (μ 0 13))
  exact ⟨c_0, ⟨c_0, ⟨c_135, rfl, trivial, H⟩⟩⟩
set_option maxRecDepth 20000 in
theorem vc_X10_town_162 {R : Mem → Option AV → Prop} {fu nu : Int} {μ : Mem} (H : r32 fu ∧ ((fu = 0) → V_X10_town R 179 [(0, kR 0), (4, kI nu)] μ) ∧ (¬ (fu = 0) → V_X10_town R 179 [(0, kR 0), (4, kI nu)] (updm μ 1 5 ((μ 1 5) + 1)))) : V_X10_town R 162 [(0, kR 0), (3, kI fu), (4, kI nu)] μ := by
  refine vm_step2 mt_X10_town ok_X10_town [(16, [0, 1, 2]), (24, [0, 1, 2]), (32, [0, 1, 2]), (125, [0]), (139, []), (151, [0, 3, 4]), (162, [0, 3, 4]), (179, [0, 4]), (207, [4])] 1000 ?_
  show r32 fu ∧ ((fu = 0) → V_X10_town R 179 [(0, kR 0), (4, kI nu)] μ) ∧ (¬ (fu = 0) → isC 0 10 ∧ isC 1 9 ∧ isC 1 9 ∧ 0 = 0 ∧ True ∧ V_X10_town R 179 [(0, kR 0), (4, kI nu)] (updm μ 1 5 ((μ 1 5) + 1)))
  exact ⟨H.1, fun hc84 => (H.2.1 hc84), fun hc84 => ⟨c_0, ⟨c_1, ⟨c_1, rfl, trivial, (H.2.2 hc84)⟩⟩⟩⟩
set_option maxRecDepth 20000 in
theorem vc_X10_town_179 {R : Mem → Option AV → Prop} {nu : Int} {μ : Mem} (H : P_X9_townAt 1 nu μ ∧ (∀ (rv86 : Int), Q_X9_townAt 1 nu μ rv86 → (rv86 < 0 → R μ (some (kI (-2)))) ∧ (¬ rv86 < 0 → P_X7_copyFrom rv86 135 μ ∧ (∀ (μ88 : Mem), Q_X7_copyFrom rv86 135 μ μ88 → V_X10_town R 207 [(4, kI nu)] μ88)))) : V_X10_town R 179 [(0, kR 0), (4, kI nu)] μ := by
  refine vm_step2 mt_X10_town ok_X10_town [(16, [0, 1, 2]), (24, [0, 1, 2]), (32, [0, 1, 2]), (125, [0]), (139, []), (151, [0, 3, 4]), (162, [0, 3, 4]), (179, [0, 4]), (207, [4])] 1000 ?_
  show isC 0 10 ∧ isC 1 9 ∧ P_X9_townAt 1 nu μ ∧ (∀ (rv86 : Int), Q_X9_townAt 1 nu μ rv86 → (¬ rv86 < 0 → isC 0 10 ∧ isC rv86 7 ∧ P_X7_copyFrom rv86 135 μ ∧ (∀ (μ88 : Mem), Q_X7_copyFrom rv86 135 μ μ88 → V_X10_town R 207 [(4, kI nu)] μ88)) ∧ (rv86 < 0 → R μ (some (kI (-2)))))
  exact ⟨c_0, ⟨c_1, H.1, fun rv86 hq87 => ⟨fun hz91 => have h_rv86 := hq87.2.2 hz91; ⟨c_0, ⟨isT_C h_rv86, ((H.2 rv86 hq87).2 hz91).1, fun μ88 hq90 => (((H.2 rv86 hq87).2 hz91).2 μ88 hq90)⟩⟩, fun hz91 => ((H.2 rv86 hq87).1 hz91)⟩⟩⟩
set_option maxRecDepth 20000 in
theorem vc_X10_town_207 {R : Mem → Option AV → Prop} {nu : Int} {μ : Mem} (H : R μ (some (kI nu))) : V_X10_town R 207 [(4, kI nu)] μ := by
  refine vm_step2 mt_X10_town ok_X10_town [(16, [0, 1, 2]), (24, [0, 1, 2]), (32, [0, 1, 2]), (125, [0]), (139, []), (151, [0, 3, 4]), (162, [0, 3, 4]), (179, [0, 4]), (207, [4])] 1000 ?_
  show R μ (some (kI nu))
  exact H
theorem WI_mk {c c' : Int} {Mk Mk' : Int → TV} {μ m : Mem} {w : Int} (h : WI c Mk μ w) (hf : ∀ z : Int, w ≤ z → z ≤ w + 32 → m z = μ z) (h0 : μ 0 13 ≤ m 0 13) (hk : ∀ x : Int, 1 ≤ x → x ≤ μ 0 13 → Mk' x = Mk x) (hc : c ≤ c') : WI c' Mk' m w := by
  obtain ⟨h1, h2, h3, h4, h5, h6⟩ := h
  unfold WI
  rw [hf w (by omega) (by omega)]
  refine ⟨h1, h2, h3, by omega, h5, fun i i0 i1 => ?_⟩
  obtain ⟨g1, g2, g3, g4⟩ := h6 i i0 i1
  have ff : ∀ z : Int, w + 3 + 10 * i ≤ z → z ≤ w + 3 + 10 * i + 9 → m z = μ z := fun z z0 z1 => hf z (by omega) (by omega)
  unfold TG
  rw [tv_frame ff, ff _ (Int.le_refl _) (by omega), hk _ g3.1 g3.2]
  exact ⟨TR_frame g1 ff, g2, by omega, g4⟩
theorem byS_at {x : Int} (h : -128 ≤ x ∧ x ≤ 127) : Int.bmod (x % 256) 256 = x := by
  rw [Int.bmod_def]; omega
theorem tellV_C {μ : Mem} (hl : 0 ≤ μ 1 2 ∧ μ 1 2 ≤ 500) (hb : BY μ 2) : tellV (stC μ) = readV (μ 2) (μ 1 2) := by
  unfold tellV
  rw [st_0]
  refine read_congr hl (fun j j0 j1 => ?_)
  show Int.bmod (clip (μ 1 2) (fun j => μ 2 j % 256) j) 256 = μ 2 j
  rw [clip_in j0 j1]
  exact byS_at (hb j j0 (by omega))
theorem clip_0 {f : Int → Int} : clip 0 f = fun _ => 0 := by
  funext j
  unfold clip
  rw [if_neg (by omega)]
theorem body_X10_town {o k : Int} {μ : Mem} {R : Mem → Option AV → Prop} (h : P_X10_town o k μ) (hR : ∀ (μ' : Mem) (r : Int), Q_X10_town o k μ μ' r → R μ' (some (kI r))) : V_X10_town R 0 [(0, kR o), (1, kI k)] μ := by
  obtain ⟨rfl, ⟨c, c9, hc⟩, r_k⟩ := h
  have hw0 : (0 ≤ μ 1 2 ∧ μ 1 2 ≤ 500) ∧ (0 ≤ μ 1 5 ∧ μ 1 5 ≤ 3) ∧ BY μ 2 ∧ (0 ≤ μ 1 6 ∧ μ 1 6 ≤ c) ∧ (0 ≤ μ 0 13 ∧ μ 0 13 ≤ c) := by
    obtain ⟨Mk, _, hm, hw, hb, _⟩ := hc
    exact ⟨hw.2.1, hw.2.2.1, hb, hw.2.2.2.1, hm⟩
  obtain ⟨hl, h5, hby, h6, h13⟩ := hw0
  have tl := tellV_C hl hby
  refine vc_X10_town_0 (vc_X10_town_16 (vc_X10_town_24 ?_))
  obtain ⟨m1, em⟩ : ∃ m, m = updm (updm (updm μ 1 2 0) 1 3 0) 1 4 (-1) := ⟨_, rfl⟩
  rw [← em]
  have fo : ∀ z : Int, z ≠ 1 → m1 z = μ z := fun z hz => by rw [em, ru_ne hz, ru_ne hz, ru_ne hz]
  have f1 : m1 1 = upd1 (upd1 (upd1 (μ 1) 2 0) 3 0) 4 (-1) := by rw [em, ru_eq, ru_eq, ru_eq]
  have fk : ∀ f : Int, f ≠ 2 → f ≠ 3 → f ≠ 4 → m1 1 f = μ 1 f := fun f a b d => by rw [f1, r1_ne d, r1_ne b, r1_ne a]
  have g2 : m1 1 2 = 0 := by rw [f1, r1_ne (by omega), r1_ne (by omega), r1_eq]
  have g3 : m1 1 3 = 0 := by rw [f1, r1_ne (by omega), r1_eq]
  have g4 : m1 1 4 = -1 := by rw [f1, r1_eq]
  have g5 : m1 1 5 = μ 1 5 := fk 5 (by omega) (by omega) (by omega)
  have h1 : isW 1 := by unfold isW; decide
  have nums : ∀ (m : Mem) (a b : Int), m 1 2 = 0 → m 1 3 = a → m 1 4 = b → (∀ f : Int, 5 ≤ f → m 1 f = μ 1 f) → clip 9 (fun f => m 1 (f + 2)) = clrN (stC μ) a b := fun m a b e2 e3 e4 e5 => by
    funext f
    have cl : ∀ y : Int, 0 ≤ y → y < 9 → clip 9 (fun f => m 1 (f + 2)) y = m 1 (y + 2) := fun y y0 y1 => clip_in (n := 9) (j := y) (f := fun f => m 1 (f + 2)) y0 y1
    unfold clrN
    by_cases q2 : f = 2
    · rw [q2, r1_eq, cl 2 (by omega) (by omega)]; exact e4
    rw [r1_ne q2]
    by_cases q1 : f = 1
    · rw [q1, r1_eq, cl 1 (by omega) (by omega)]; exact e3
    rw [r1_ne q1]
    by_cases q0 : f = 0
    · rw [q0, r1_eq, cl 0 (by omega) (by omega)]; exact e2
    rw [r1_ne q0]
    show (if 0 ≤ f ∧ f < 9 then m 1 (f + 2) else 0) = if 0 ≤ f ∧ f < 9 then μ 1 (f + 2) else 0
    by_cases c : 0 ≤ f ∧ f < 9
    · rw [if_pos c, if_pos c, e5 (f + 2) (by omega)]
    · rw [if_neg c, if_neg c]
  -- a change of numbers alone
  have flat : ∀ (m : Mem) (a b : Int), (∀ z : Int, z ≠ 1 → (z < 135 ∨ 148 < z) → m z = μ z) → m 1 2 = 0 → m 1 3 = a → m 1 4 = b → (∀ f : Int, 5 ≤ f → m 1 f = μ 1 f) → r32 a → r32 b → (∀ y, y ≤ 999 → CI y μ → CI (y + 1) m) ∧ stC m = (((fun _ => 0), clrN (stC μ) a b, (stC μ).1.2.2), (stC μ).2) := fun m a b e1 e2 e3 e4 e5 ra rb => by
    refine ⟨fun y hy1 hy => ?_, ?_⟩
    · obtain ⟨Mk, _, _, hw, _⟩ := id hy
      have w6 := hw.2.2.2.1
      refine CI_nums (CI_le hy (by omega) (by omega)) e1 (by omega) (e5 5 (by omega)) (by rw [e5 6 (by omega)]; omega) (fun f f0 f1 => ?_)
      rcases (by omega : f = 2 ∨ f = 3 ∨ f = 4 ∨ 5 ≤ f) with e | e | e | e
      · rw [e, e2]; exact rr (by omega)
      · rw [e, e3]; exact ra
      · rw [e, e4]; exact rb
      · rw [e5 f e]; exact hw.2.2.2.2.1 f f0 f1
    · rw [stC_nums hc e1 (e5 5 (by omega)), nums m a b e2 e3 e4 e5, e2, clip_0]
  have no : ¬ ((k = -1 ∧ μ 1 5 < 3) ∨ (0 ≤ k ∧ k < μ 1 5)) → R m1 (some (kI (-2))) := fun q => hR m1 _ (by
    unfold Q_X10_town townS
    rw [st_3, if_pos q]
    have := flat m1 0 (-1) (fun z z1 _ => fo z z1) g2 g3 g4 (fun f _ => fk f (by omega) (by omega) (by omega)) (rr (by omega)) (rr (by omega))
    exact ⟨this.1, this.2, rfl, fun z hz => fo z (by omega)⟩)
  have pre : P_X5_read 145 2 (μ 1 2) 135 m1 := ⟨rfl, rfl, rfl, hl, fun j j0 j1 => by rw [fo 2 (by omega)]; exact hby j j0 j1⟩
  have fb := text_fbd (K := KT (μ 2) (μ 1 2)) (S := stT (μ 2) (μ 1 2)) (V := VT (μ 2) (μ 1 2)) hl (fun i i0 => by have := stT_bd (tx := μ 2) hl.1 i0; omega)
  have go : ∀ fu nu : Int, ((fu = 1 ∧ k = -1 ∧ nu = μ 1 5 ∧ μ 1 5 < 3) ∨ (fu = 0 ∧ nu = k ∧ 0 ≤ k ∧ k < μ 1 5)) → ∀ (m8 : Mem) (rv : Int), Q_X5_read 145 2 (μ 1 2) 135 m1 m8 rv → r32 rv ∧ ((¬ rv = 0) → V_X10_town R 151 [(0, kR 0), (3, kI fu), (4, kI nu)] (updm m8 0 13 ((m8 0 13) + 1))) ∧ (¬ (¬ rv = 0) → V_X10_town R 125 [(0, kR 0)] (updm m8 1 3 (m8 145 4))) := by
    intro fu nu hfn m8 rv hq
    obtain ⟨qf, q0, q1⟩ := hq
    rw [fo 2 (by omega)] at q0 q1
    have can : (k = -1 ∧ μ 1 5 < 3) ∨ (0 ≤ k ∧ k < μ 1 5) := by omega
    have enu : (if k = -1 then μ 1 5 else k) = nu := by
      rcases hfn with q | q
      · rw [if_pos q.2.1]; exact q.2.2.1.symm
      · rw [if_neg (by omega)]; exact q.2.1.symm
    have k8 : ∀ z : Int, (z < 135 ∨ 148 < z) → m8 z = m1 z := qf
    by_cases c0 : (readV (μ 2) (μ 1 2)).1.1 = 0
    · obtain ⟨er, etv, etr, erd⟩ := q0 c0
      refine ⟨rr (by omega), fun _ => ?_, fun q => absurd (by omega) q⟩
      obtain ⟨m9, em9⟩ : ∃ m, m = updm m8 0 13 (m8 0 13 + 1) := ⟨_, rfl⟩
      rw [← em9]
      refine vc_X10_town_151 ?_
      obtain ⟨ma, ema⟩ : ∃ m, m = updm m9 135 0 (m9 0 13) := ⟨_, rfl⟩
      rw [← ema]
      have a13 : m8 0 13 = μ 0 13 := by rw [k8 0 (by omega), fo 0 (by omega)]
      have a0 : ma 0 = upd1 (μ 0) 13 (μ 0 13 + 1) := by rw [ema, ru_ne (by omega), em9, ru_eq, a13, k8 0 (by omega), fo 0 (by omega)]
      have a135 : ma 135 = upd1 (m8 135) 0 (μ 0 13 + 1) := by rw [ema, ru_eq, em9, ru_eq, r1_eq, ru_ne (by omega), a13]
      have afo : ∀ z : Int, z ≠ 0 → z ≠ 135 → ma z = m8 z := fun z z0 z1 => by rw [ema, ru_ne z1, em9, ru_ne z0]
      have a1 : ma 1 = m1 1 := by rw [afo 1 (by omega) (by omega), k8 1 (by omega)]
      -- what the last steps do
      have last : ∀ mb : Mem, (∀ z : Int, z ≠ 1 → mb z = ma z) → mb 1 = upd1 (m1 1) 5 (if k = -1 then μ 1 5 + 1 else μ 1 5) → V_X10_town R 179 [(0, kR 0), (4, kI nu)] mb := by
        intro mb bfo b1
        have etn : (if k = -1 then μ 1 5 + 1 else μ 1 5) = if fu = 1 then μ 1 5 + 1 else μ 1 5 := by
          rcases hfn with q | q
          · rw [if_pos q.2.1, if_pos q.1]
          · rw [if_neg (by omega), if_neg (by omega)]
        obtain ⟨tn, htn⟩ : ∃ tn, tn = (if k = -1 then μ 1 5 + 1 else μ 1 5) := ⟨_, rfl⟩
        rw [← htn] at b1 etn
        have tnb : (tn = μ 1 5 + 1 ∧ nu = μ 1 5 ∧ μ 1 5 < 3) ∨ (tn = μ 1 5 ∧ 0 ≤ nu ∧ nu < μ 1 5) := by
          rcases hfn with q | q
          · rw [if_pos q.1] at etn; exact Or.inl ⟨etn, q.2.2.1, q.2.2.2⟩
          · rw [if_neg (by omega)] at etn; exact Or.inr ⟨etn, by omega, by omega⟩
        have b5 : mb 1 5 = tn := by rw [b1, r1_eq]
        have bk : ∀ f : Int, f ≠ 5 → mb 1 f = m1 1 f := fun f hf => by rw [b1, r1_ne hf]
        refine vc_X10_town_179 ⟨⟨h1, rr (by omega), by omega⟩, fun t qt => ?_⟩
        have et := qt.1 (by omega)
        have ht := qt.2.2 (by omega)
        refine ⟨fun q => absurd q (by omega), fun _ => ⟨⟨ht, t_135, by omega⟩, fun m qc => vc_X10_town_207 (hR m nu ?_)⟩⟩
        obtain ⟨cp, sm_⟩ := qc
        have mfo : ∀ z : Int, z ≠ 0 → z ≠ 1 → (z < t ∨ t + 9 < z) → (z < 135 ∨ 148 < z) → m z = μ z := fun z z0 z1 z2 z3 => by
          rw [sm_ z z2, bfo z z1, afo z z0 (by omega), k8 z z3, fo z z1]
        have m13 : m 0 13 = μ 0 13 + 1 := by rw [sm_ 0 (by omega), bfo 0 (by omega), a0, r1_eq]
        have m1e : m 1 = upd1 (m1 1) 5 tn := by rw [sm_ 1 (by omega), b1]
        have mk1 : ∀ f : Int, f ≠ 2 → f ≠ 3 → f ≠ 4 → f ≠ 5 → m 1 f = μ 1 f := fun f x1 x2 x3 x4 => by rw [m1e, r1_ne x4]; exact fk f x1 x2 x3
        have m12 : m 1 2 = 0 := by rw [m1e, r1_ne (by omega)]; exact g2
        have m13' : m 1 3 = 0 := by rw [m1e, r1_ne (by omega)]; exact g3
        have m14 : m 1 4 = -1 := by rw [m1e, r1_ne (by omega)]; exact g4
        have m15 : m 1 5 = tn := by rw [m1e, r1_eq]
        have tvb : tv mb 135 = tv m8 135 := tv_mark (fun f hf => by rw [bfo 135 (by omega), a135, r1_ne hf]) (fun z z0 z1 => by rw [bfo z (by omega), afo z (by omega) (by omega)])
        have trb : TR mb 135 := TR_txt etr (by rw [tvb]; exact etr.1.2) (by rw [tvb]) (by rw [bfo _ (by omega), afo _ (by omega) (by omega)]) (by rw [bfo 135 (by omega), a135, r1_ne (by omega)]) (by rw [bfo 135 (by omega), a135, r1_ne (by omega)])
        have trm : TR m t := TR_copy trb ht cp
        have tvm : tv m t = (readV (μ 2) (μ 1 2)).2 := by rw [TCopy_tv cp trb.1.2, tvb, etv]
        have mt0 : m t 0 = μ 0 13 + 1 := by rw [cp.1 0 (by omega), bfo 135 (by omega), a135, r1_eq]
        have mt2 : 0 ≤ m t 2 ∧ m t 2 ≤ 20 := by
          have e : m t 2 = tv m8 135 1 0 := by rw [cp.1 2 (by omega), bfo 135 (by omega), a135, r1_ne (by omega)]; rfl
          rw [e]
          exact erd.2.1
        unfold Q_X10_town townS
        rw [st_3, if_neg (fun q => q can), tl, if_neg (fun q => q c0), enu, ← htn]
        refine ⟨fun y hy1 hy => ?_, ?_, rfl, fun z hz => mfo z (by omega) (by omega) (by omega) (by omega)⟩
        · obtain ⟨Mk, hcc, hm, hw, hb, hi, G1, G2, n1, o1⟩ := hy
          have mkk : ∀ x : Int, x ≤ μ 0 13 → (fun x => if x = μ 0 13 + 1 then tv m t else Mk x) x = Mk x := fun x hx => if_neg (by omega)
          refine ⟨fun x => if x = μ 0 13 + 1 then tv m t else Mk x, by omega, by omega, ?_, fun j j0 j1 => by rw [mfo 2 (by omega) (by omega) (by omega) (by omega)]; exact hb j j0 j1, fun k' k0 k1 => ?_, GInv_frame G1 (fun z z0 z1 => mfo z (by omega) (by omega) (by omega) (by omega)), GInv_frame G2 (fun z z0 z1 => mfo z (by omega) (by omega) (by omega) (by omega)), ?_, ?_⟩
          · obtain ⟨w1, w2, w3, w4, w5, w6⟩ := hw
            refine ⟨h1, by omega, by omega, by rw [mk1 6 (by omega) (by omega) (by omega) (by omega)]; omega, fun f f0 f1 => ?_, fun i i0 i1 => ?_⟩
            · rcases (by omega : f = 2 ∨ f = 3 ∨ f = 4 ∨ f = 5 ∨ 5 < f) with e | e | e | e | e
              · rw [e, m12]; exact rr (by omega)
              · rw [e, m13']; exact rr (by omega)
              · rw [e, m14]; exact rr (by omega)
              · rw [e, m15]; exact rr (by omega)
              · rw [mk1 f (by omega) (by omega) (by omega) (by omega)]; exact w5 f f0 f1
            · by_cases e : i = nu
              · have e2 : (1 : Int) + 3 + 10 * i = t := by omega
                rw [e2]
                refine ⟨trm, mt2, by rw [mt0, m13]; omega, ?_⟩
                rw [mt0]
                show txt (tv m t) = txt (if μ 0 13 + 1 = μ 0 13 + 1 then tv m t else Mk (μ 0 13 + 1))
                rw [if_pos rfl]
              · have ff : ∀ z : Int, 1 + 3 + 10 * i ≤ z → z ≤ 1 + 3 + 10 * i + 9 → m z = μ z := fun z z0 z1 => mfo z (by omega) (by omega) (by omega) (by omega)
                obtain ⟨t1, t2, t3, t4⟩ := w6 i i0 (by omega)
                refine ⟨TR_frame t1 ff, by rw [ff _ (Int.le_refl _) (by omega)]; exact t2, by rw [ff _ (Int.le_refl _) (by omega), m13]; omega, ?_⟩
                rw [ff _ (Int.le_refl _) (by omega), tv_frame ff, mkk _ t3.2]
                exact t4
          · have q := hi k' k0 k1
            rw [mfo 134 (by omega) (by omega) (by omega) (by omega)]
            exact ⟨q.1, by unfold BY; rw [mfo (36 + 33 * k') (by omega) (by omega) (by omega) (by omega)]; exact q.2.1, fun e => WI_mk (q.2.2 e) (fun z z0 z1 => mfo z (by omega) (by omega) (by omega) (by omega)) (by omega) (fun x _ x1 => mkk x x1) (by omega)⟩
          · unfold NC ChaR at n1 ⊢
            rw [mfo 186 (by omega) (by omega) (by omega) (by omega), mfo 192 (by omega) (by omega) (by omega) (by omega), mkk _ n1.1.2]
            exact ⟨by omega, n1.2⟩
          · unfold OC OpR at o1 ⊢
            rw [mfo 178 (by omega) (by omega) (by omega) (by omega), mkk _ o1.1.2]
            exact ⟨by omega, o1.2⟩
        · obtain ⟨Mk, hcc, hm, hw, hb, hi, G1, G2, n1, o1⟩ := hc
          unfold stC
          refine Prod.ext (Prod.ext ?_ (Prod.ext ?_ ?_)) (Prod.ext ?_ ?_)
          · show clip (m 1 2) (fun j => m (1 + 1) j % 256) = fun _ => 0
            rw [m12, clip_0]
          · show clip 9 (fun f => m 1 (f + 2)) = upd1 (clrN (stC μ) 0 (-1)) 3 tn
            funext f
            have cl : ∀ y : Int, 0 ≤ y → y < 9 → clip 9 (fun f => m 1 (f + 2)) y = m 1 (y + 2) := fun y y0 y1 => clip_in (n := 9) (j := y) (f := fun f => m 1 (f + 2)) y0 y1
            by_cases q3 : f = 3
            · rw [q3, r1_eq, cl 3 (by omega) (by omega)]; exact m15
            · rw [r1_ne q3]
              have := congrFun (nums m1 0 (-1) g2 g3 g4 (fun f _ => fk f (by omega) (by omega) (by omega))) f
              rw [← this]
              show (if 0 ≤ f ∧ f < 9 then m 1 (f + 2) else 0) = if 0 ≤ f ∧ f < 9 then m1 1 (f + 2) else 0
              rw [m1e, r1_ne (by omega)]
          · funext i
            show (if 0 ≤ i ∧ i < m 1 5 then tv m (1 + 3 + 10 * i) else tv0) = if i = nu then (readV (μ 2) (μ 1 2)).2 else if 0 ≤ i ∧ i < μ 1 5 then tv μ (1 + 3 + 10 * i) else tv0
            rw [m15]
            by_cases e : i = nu
            · have e2 : (1 : Int) + 3 + 10 * i = t := by omega
              rw [if_pos (by omega), if_pos e, e2, tvm]
            · rw [if_neg e]
              by_cases q : 0 ≤ i ∧ i < μ 1 5
              · rw [if_pos (by omega), if_pos q]
                exact tv_frame fun z z0 z1 => mfo z (by omega) (by omega) (by omega) (by omega)
              · rw [if_neg (by omega), if_neg q]
          · show clip 3 (m 134) = clip 3 (μ 134)
            rw [mfo 134 (by omega) (by omega) (by omega) (by omega)]
          · funext k'
            show (if 0 ≤ k' ∧ k' < 3 ∧ m 134 k' = 1 then wvC m (35 + 33 * k') else wv0) = if 0 ≤ k' ∧ k' < 3 ∧ μ 134 k' = 1 then wvC μ (35 + 33 * k') else wv0
            rw [mfo 134 (by omega) (by omega) (by omega) (by omega)]
            by_cases q : 0 ≤ k' ∧ k' < 3 ∧ μ 134 k' = 1
            · rw [if_pos q, if_pos q, wvC_frame ((hi k' q.1 q.2.1).2.2 q.2.2) (fun z z0 z1 => mfo z (by omega) (by omega) (by omega) (by omega))]
            · rw [if_neg q, if_neg q]
      refine vc_X10_town_162 ⟨rr (by omega), fun q => last ma (fun z _ => rfl) ?_, fun q => last (updm ma 1 5 (ma 1 5 + 1)) (fun z hz => ru_ne hz) ?_⟩
      · rw [a1]
        funext f
        by_cases e : f = 5
        · rw [e, r1_eq, if_neg (by omega)]; exact g5
        · rw [r1_ne e]
      · rw [ru_eq, a1, g5, if_pos (by omega)]
    · obtain ⟨er, e4, e5⟩ := q1 c0
      refine ⟨rr (by omega), fun q => absurd er q, fun _ => vc_X10_town_125 (vc_X10_town_139 ?_)⟩
      obtain ⟨m, em⟩ : ∃ m, m = updm (updm m8 1 3 (m8 145 4)) 1 4 (updm m8 1 3 (m8 145 4) 145 5) := ⟨_, rfl⟩
      rw [← em]
      have x1 : m 1 = upd1 (upd1 (m1 1) 3 (readV (μ 2) (μ 1 2)).1.1) 4 (readV (μ 2) (μ 1 2)).1.2 := by rw [em, ru_eq, ru_eq, ru_ne (by omega), e4, e5, k8 1 (by omega)]
      have xf : ∀ z : Int, z ≠ 1 → m z = m8 z := fun z hz => by rw [em, ru_ne hz, ru_ne hz]
      refine hR m _ ?_
      unfold Q_X10_town townS
      rw [st_3, if_neg (fun q => q can), tl, if_pos c0]
      have fb1 : (0 ≤ (readV (μ 2) (μ 1 2)).1.1 ∧ (readV (μ 2) (μ 1 2)).1.1 ≤ 6) ∧ (0 ≤ (readV (μ 2) (μ 1 2)).1.2 ∧ (readV (μ 2) (μ 1 2)).1.2 ≤ 500) := fb
      have := flat m _ _ (fun z z1 z2 => by rw [xf z z1, k8 z z2, fo z z1]) (by rw [x1, r1_ne (by omega), r1_ne (by omega)]; exact g2) (by rw [x1, r1_ne (by omega), r1_eq]) (by rw [x1, r1_eq]) (fun f _ => by rw [x1, r1_ne (by omega), r1_ne (by omega)]; exact fk f (by omega) (by omega) (by omega)) (rr (by omega)) (rr (by omega))
      exact ⟨this.1, this.2, rfl, fun z hz => by rw [xf z (by omega), k8 z (by omega), fo z (by omega)]⟩
  have pat : P_X9_townAt 1 k m1 := ⟨h1, r_k, by omega⟩
  have at_ : ∀ r : Int, Q_X9_townAt 1 k m1 r → (r < 0 ∧ ¬ (0 ≤ k ∧ k < μ 1 5)) ∨ (¬ r < 0 ∧ 0 ≤ k ∧ k < μ 1 5) := fun r q => by
    unfold Q_X9_townAt at q
    rw [g5] at q
    by_cases c : 0 ≤ k ∧ k < μ 1 5
    · have := q.1 c; exact Or.inr ⟨by omega, c⟩
    · have := q.2.1 c; exact Or.inl ⟨by omega, c⟩
  refine vc_X10_town_32 ⟨r_k, fun c1 => ⟨pat, fun r q => ?_⟩, fun c1 => ⟨by rw [g5]; exact rr (by omega), fun c2 => ⟨pat, fun r q => ?_⟩, fun c2 => ⟨pre, fun m8 rv hq => go 1 _ (Or.inl ⟨rfl, by omega, by rw [g5], by omega⟩) m8 rv hq⟩⟩⟩
  · rcases at_ r q with ⟨a, b⟩ | ⟨a, b⟩
    · exact ⟨fun _ => no (by omega), fun x => absurd a x⟩
    · exact ⟨fun x => absurd x a, fun _ => ⟨pre, fun m8 rv hq => go 0 k (Or.inr ⟨rfl, rfl, b⟩) m8 rv hq⟩⟩
  · rcases at_ r q with ⟨a, b⟩ | ⟨a, b⟩
    · exact ⟨fun _ => no (by omega), fun x => absurd a x⟩
    · exact absurd b.1 (by omega)
theorem ct_X10_town : Ct mX10_town 6 141 0 0 (nrmS S_X10_town) := by
  refine ct_vm (own := RX10) (by decide +kernel) rfl ?_ ?_
  · intro as μ Q hS
    unfold S_X10_town at hS
    split at hS
    · exact Nat.le_of_ble_eq_true rfl
    · exact hS.elim
  · intro as μ R hS
    unfold S_X10_town at hS
    split at hS
    · exact body_X10_town hS.1 hS.2
    · exact hS.elim
