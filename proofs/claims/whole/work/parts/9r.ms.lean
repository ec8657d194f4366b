/-! both sides: what holds of every town that is told: it has a chance, its lanes are counted -/
def lcV (v : TV) : Prop := 2 * v 1 0 = sm (lanesV v) (v 0 0)
def ncV (v : TV) : Prop := sm (v 4) (v 0 0) ≠ 0 ∧ lcV v
/-- the same while a text is read -/
def lgV (v : TV) : Prop := (2 ≤ v 0 0 ∧ v 0 0 ≤ 8) ∧ (∀ a b : Int, 0 ≤ a → a < v 0 0 → 0 ≤ b → b < v 0 0 → v 7 (8 * a + b) = v 7 (8 * b + a)) ∧ lcV v
theorem lg_of {v v' : TV} (h : lgV v) (h0 : v' 0 = v 0) (h1 : v' 1 = v 1) (h7 : v' 7 = v 7) : lgV v' := by
  unfold lgV lcV lanesV at h ⊢
  rw [h0, h1, h7]
  exact h
theorem lg_add {v : TV} {a b k : Int} (h : lgV v) (ha : 0 ≤ a ∧ a < v 0 0) (hb : 0 ≤ b ∧ b < v 0 0) (hab : a ≠ b) (hz : v 7 (8 * a + b) = 0) (hk : 1 ≤ k) : lgV (addLV v a b k) := by
  obtain ⟨h0, hs, hc⟩ := h
  have e0 : addLV v a b k 0 0 = v 0 0 := rfl
  have e1 : addLV v a b k 1 0 = v 1 0 + 1 := rfl
  have e7 : ∀ j : Int, addLV v a b k 7 j = if j = 8 * b + a ∨ j = 8 * a + b then k else v 7 j := fun _ => rfl
  have hz2 : v 7 (8 * b + a) = 0 := by rw [← hs a b ha.1 ha.2 hb.1 hb.2]; exact hz
  have la : lanesV (addLV v a b k) a = lanesV v a + 1 := by
    unfold lanesV
    rw [e0]
    refine sm_upd (b := b) hb.1 hb.2 (fun i i0 i1 hi => ?_) ?_
    · show (if addLV v a b k 7 (8 * a + i) = 0 then (0 : Int) else 1) = if v 7 (8 * a + i) = 0 then 0 else 1
      rw [e7, if_neg (show ¬ (8 * a + i = 8 * b + a ∨ 8 * a + i = 8 * a + b) by omega)]
    · show (if addLV v a b k 7 (8 * a + b) = 0 then (0 : Int) else 1) = (if v 7 (8 * a + b) = 0 then 0 else 1) + 1
      rw [e7, if_pos (Or.inr rfl), hz, if_neg (by omega), if_pos rfl]; omega
  have lb : lanesV (addLV v a b k) b = lanesV v b + 1 := by
    unfold lanesV
    rw [e0]
    refine sm_upd (b := a) ha.1 ha.2 (fun i i0 i1 hi => ?_) ?_
    · show (if addLV v a b k 7 (8 * b + i) = 0 then (0 : Int) else 1) = if v 7 (8 * b + i) = 0 then 0 else 1
      rw [e7, if_neg (show ¬ (8 * b + i = 8 * b + a ∨ 8 * b + i = 8 * a + b) by omega)]
    · show (if addLV v a b k 7 (8 * b + a) = 0 then (0 : Int) else 1) = (if v 7 (8 * b + a) = 0 then 0 else 1) + 1
      rw [e7, if_pos (Or.inl rfl), hz2, if_neg (by omega), if_pos rfl]; omega
  have lo : ∀ x : Int, 0 ≤ x → x < v 0 0 → x ≠ a → x ≠ b → lanesV (addLV v a b k) x = lanesV v x := fun x x0 x1 xa xb => by
    unfold lanesV
    rw [e0]
    refine sm_congr fun i i0 i1 => ?_
    show (if addLV v a b k 7 (8 * x + i) = 0 then (0 : Int) else 1) = if v 7 (8 * x + i) = 0 then 0 else 1
    rw [e7, if_neg (show ¬ (8 * x + i = 8 * b + a ∨ 8 * x + i = 8 * a + b) by omega)]
  refine ⟨h0, fun x y x0 x1 y0 y1 => ?_, ?_⟩
  · rw [e0] at x1 y1
    have q := hs x y x0 x1 y0 y1
    rw [e7, e7]
    by_cases c : 8 * x + y = 8 * b + a ∨ 8 * x + y = 8 * a + b
    · rw [if_pos c, if_pos (show 8 * y + x = 8 * b + a ∨ 8 * y + x = 8 * a + b by omega)]
    · rw [if_neg c, if_neg (show ¬ (8 * y + x = 8 * b + a ∨ 8 * y + x = 8 * a + b) by omega)]
      exact q
  · unfold lcV at hc ⊢
    rw [e0, e1]
    have s1 : sm (fun x => if x = a then lanesV v a + 1 else lanesV v x) (v 0 0) = sm (lanesV v) (v 0 0) + 1 := by
      refine sm_upd (b := a) ha.1 ha.2 (fun i i0 i1 hi => ?_) ?_
      · show (if i = a then lanesV v a + 1 else lanesV v i) = lanesV v i
        rw [if_neg hi]
      · show (if a = a then lanesV v a + 1 else lanesV v a) = lanesV v a + 1
        rw [if_pos rfl]
    have s2 : sm (lanesV (addLV v a b k)) (v 0 0) = sm (fun x => if x = a then lanesV v a + 1 else lanesV v x) (v 0 0) + 1 := by
      refine sm_upd (b := b) hb.1 hb.2 (fun i i0 i1 hi => ?_) ?_
      · show lanesV (addLV v a b k) i = if i = a then lanesV v a + 1 else lanesV v i
        by_cases c : i = a
        · rw [if_pos c, c, la]
        · rw [if_neg c]
          exact lo i i0 i1 c hi
      · show lanesV (addLV v a b k) b = (if b = a then lanesV v a + 1 else lanesV v b) + 1
        rw [if_neg (fun q => hab q.symm), lb]
    rw [s2, s1]
    omega
theorem lg_lan {S V : Int → Int} {p : Int} {v : TV} (h : lgV v) : lgV (lanV S V p v).2 := by
  unfold lanV
  split
  · exact h
  · rename_i c1
    split
    · exact h
    · rename_i c2
      split
      · exact h
      · rename_i c3
        split
        · exact h
        · rename_i c4
          have ha : 0 ≤ V (p + 1) ∧ V (p + 1) < v 0 0 := Classical.byContradiction fun q => c2 q
          have hb : 0 ≤ V (p + 2) ∧ V (p + 2) < v 0 0 := Classical.byContradiction fun q => c3 (Or.inl q)
          exact lg_add h ha hb (fun q => c3 (Or.inr q)) (Classical.byContradiction fun q => c1 (Or.inr ⟨ha, hb, q⟩)) (by omega)
theorem lg_plc {S V : Int → Int} {p lo hi : Int} {v : TV} {f : Nat} (hf : f ≠ 0 ∧ f ≠ 1 ∧ f ≠ 7) (h : lgV v) : lgV (plcV S V p v f lo hi).2 := by
  unfold plcV
  split
  · exact h
  · split
    · exact h
    · exact lg_of h (if_neg (fun q => hf.1 q.symm)) (if_neg (fun q => hf.2.1 q.symm)) (if_neg (fun q => hf.2.2 q.symm))
theorem lg_onl {S V : Int → Int} {p hi : Int} {v : TV} {f : Nat} (hf : f ≠ 0 ∧ f ≠ 1 ∧ f ≠ 7) (h : lgV v) : lgV (onlV S V p v f hi).2 := by
  unfold onlV
  split
  · exact h
  · exact lg_of h (if_neg (fun q => hf.1 q.symm)) (if_neg (fun q => hf.2.1 q.symm)) (if_neg (fun q => hf.2.2 q.symm))
theorem lg_line {K S V : Int → Int} {p : Int} {v : TV} (h : lgV v) : lgV (lineV K S V p v).2 := by
  unfold lineV
  split
  · exact lg_lan h
  · split
    · exact lg_plc ⟨by decide, by decide, by decide⟩ h
    · split
      · exact lg_plc ⟨by decide, by decide, by decide⟩ h
      · split
        · exact lg_plc ⟨by decide, by decide, by decide⟩ h
        · split
          · exact lg_onl ⟨by decide, by decide, by decide⟩ h
          · exact lg_onl ⟨by decide, by decide, by decide⟩ h
theorem lg_lines {K S V : Int → Int} : ∀ (f : Nat) (p ln : Int) (v : TV), lgV v → lgV (linesV K S V f p ln v).2
  | 0, _, _, _, h => h
  | f + 1, p, ln, v, h => by
    have hl := lg_line (K := K) (S := S) (V := V) (p := p) h
    have ih := lg_lines (K := K) (S := S) (V := V) f (p + 2 + nbK (K p)) (ln + 1) (lineV K S V p v).2 hl
    unfold linesV
    split
    · exact h
    · split
      · exact h
      · split
        · exact hl
        · exact ih
theorem lg_beg {p : Int} (h : 2 ≤ p ∧ p ≤ 8) : lgV (begV p) := by
  have l0 : ∀ a : Int, lanesV (begV p) a = 0 := fun a => by
    unfold lanesV
    exact (sm_congr (g := fun _ => 0) (fun i _ _ => rfl)).trans (sm_zero (show 0 ≤ p by omega))
  refine ⟨h, fun a b _ _ _ _ => rfl, ?_⟩
  unfold lcV
  have e : sm (lanesV (begV p)) p = 0 := (sm_congr (g := fun _ => 0) (fun i _ _ => l0 i)).trans (sm_zero (by omega))
  show 2 * (0 : Int) = sm (lanesV (begV p)) p
  rw [e]; rfl
theorem text_lc {K S V : Int → Int} {L : Int} (h : (textV K S V L).1.1 = 0) : lcV (textV K S V L).2 := by
  unfold textV at h ⊢
  split at h
  · exact absurd (show (1 : Int) = 0 from h) (by decide)
  · rename_i c1
    rw [if_neg c1]
    split at h
    · exact absurd (show (2 : Int) = 0 from h) (by decide)
    · rename_i c2
      rw [if_neg c2]
      split at h
      · rename_i c3
        exact absurd h c3
      · rename_i c3
        rw [if_neg c3]
        have e := end_nz h
        rw [e.1]
        exact (lg_lines (K := K) (S := S) (V := V) 502 3 0 (begV (V 1)) (lg_beg (by omega))).2.2
theorem tell_nc {s : STt} (h : (tellV s).1.1 = 0) : ncV (tellV s).2 := ⟨text_nz h, text_lc h⟩
/-- every town that is told, also in images -/
def NcS (s : STt) : Prop := (∀ i : Int, 0 ≤ i → i < s.1.2.1 3 → ncV (s.1.2.2 i)) ∧ ∀ k : Int, 0 ≤ k → k < 3 → s.2.1 k = 1 → ∀ i : Int, 0 ≤ i → i < (s.2.2 k).2.1 3 → ncV ((s.2.2 k).2.2 i)
theorem nc_same {s s' : STt} (h : NcS s) (h3 : s'.1.2.1 3 = s.1.2.1 3) (ht : s'.1.2.2 = s.1.2.2) (h2 : s'.2 = s.2) : NcS s' := by
  unfold NcS
  rw [h3, ht, h2]
  exact h
theorem nc_end {s : STt} {n : Int} (h : NcS s) : NcS (endS s n).1 := by
  unfold endS
  split
  · exact nc_same h (show upd1 s.1.2.1 0 n 3 = s.1.2.1 3 from r1_ne (by omega)) rfl rfl
  · exact h
theorem nc_app {s : STt} {k : Int} (h : NcS s) : NcS (appS s k) := by
  unfold appS
  exact nc_same h (show upd1 s.1.2.1 0 (s.1.2.1 0 + 4) 3 = s.1.2.1 3 from r1_ne (by omega)) rfl rfl
theorem nc_feed {s : STt} {a b c d e : Int} (h : NcS s) : NcS (feedS s a b c d e).1 := by
  unfold feedS
  split
  · exact nc_app (nc_app (nc_app (nc_app (nc_app h))))
  · exact h
theorem nc_run {s : STt} {n a k : Int} (h : NcS s) : NcS (runS s n a k).1 := by
  unfold runS
  split
  · refine nc_same h ?_ rfl rfl
    show upd1 (upd1 (upd1 (upd1 (upd1 s.1.2.1 4 (s.1.2.1 4 + 1)) 5 (liV (s.1.2.2 n) k)) 6 (rnV (s.1.2.2 n) a k).2.1) 7 (rnV (s.1.2.2 n) a k).2.2.1) 8 (rnV (s.1.2.2 n) a k).2.2.2 3 = s.1.2.1 3
    rw [r1_ne (by omega), r1_ne (by omega), r1_ne (by omega), r1_ne (by omega), r1_ne (by omega)]
  · exact h
theorem nc_chg {s : STt} {n d : Int} {p : TV → Bool} {f : TV → TV} {r : TV → Int} (hf : ∀ v : TV, ncV v → ncV (f v)) (h : NcS s) : NcS (chgT s n d p f r).1 := by
  unfold chgT
  split
  · rename_i c
    refine ⟨fun i i0 i1 => ?_, h.2⟩
    show ncV (if i = n then f (s.1.2.2 n) else s.1.2.2 i)
    by_cases q : i = n
    · rw [if_pos q]; exact hf _ (h.1 n c.1.1 c.1.2)
    · rw [if_neg q]; exact h.1 i i0 i1
  · exact h
theorem nc_image {s : STt} {k : Int} (h : NcS s) : NcS (imageS s k).1 := by
  unfold imageS
  split
  · refine ⟨h.1, fun j j0 j1 e => ?_⟩
    have e : upd1 s.2.1 k 1 j = 1 := e
    show ∀ i : Int, 0 ≤ i → i < (if j = k then s.1 else s.2.2 j).2.1 3 → ncV ((if j = k then s.1 else s.2.2 j).2.2 i)
    by_cases q : j = k
    · rw [if_pos q]; exact h.1
    · rw [if_neg q]; exact h.2 j j0 j1 (by rw [r1_ne q] at e; exact e)
  · exact h
theorem nc_again {s : STt} {k : Int} (h : NcS s) : NcS (againS s k).1 := by
  unfold againS
  split
  · rename_i c
    exact ⟨h.2 k c.1.1 c.1.2 c.2, h.2⟩
  · exact h
theorem clr_3 (s : STt) (a b : Int) : clrN s a b 3 = s.1.2.1 3 := by
  unfold clrN
  rw [r1_ne (by omega), r1_ne (by omega), r1_ne (by omega)]
theorem nc_town {s : STt} {k : Int} (h : NcS s) : NcS (townS s k).1 := by
  unfold townS
  by_cases c1 : ¬ ((k = -1 ∧ s.1.2.1 3 < 3) ∨ (0 ≤ k ∧ k < s.1.2.1 3))
  · rw [if_pos c1]
    exact nc_same h (clr_3 s 0 (-1)) rfl rfl
  · rw [if_neg c1]
    by_cases c2 : (tellV s).1.1 ≠ 0
    · rw [if_pos c2]
      exact nc_same h (clr_3 s (tellV s).1.1 (tellV s).1.2) rfl rfl
    · rw [if_neg c2]
      refine ⟨fun i i0 i1 => ?_, h.2⟩
      have i1 : i < upd1 (clrN s 0 (-1)) 3 (if k = -1 then s.1.2.1 3 + 1 else s.1.2.1 3) 3 := i1
      rw [r1_eq] at i1
      show ncV (if i = (if k = -1 then s.1.2.1 3 else k) then (tellV s).2 else s.1.2.2 i)
      by_cases q : i = (if k = -1 then s.1.2.1 3 else k)
      · rw [if_pos q]
        exact tell_nc (Classical.byContradiction fun e => c2 e)
      · rw [if_neg q]
        refine h.1 i i0 ?_
        by_cases e : k = -1
        · rw [if_pos e] at q i1
          omega
        · rw [if_neg e] at i1
          exact i1
/-! what both sides need of what is told -/
theorem WOk_of {c : Int} {Mk : Int → TV} {μ : Mem} {w : Int} (h : WI c Mk μ w) (hc : c ≤ 1000) (hn : ∀ i : Int, 0 ≤ i → i < (wvC μ w).2.1 3 → ncV ((wvC μ w).2.2 i)) : WOk (wvC μ w) := by
  obtain ⟨h1, h2, h3, h4, h5, h6⟩ := h
  have en : ∀ f : Int, 0 ≤ f → f < 9 → (wvC μ w).2.1 f = μ w (f + 2) := fun f f0 f1 => clip_in (n := 9) (j := f) (f := fun f => μ w (f + 2)) f0 f1
  have e0 : (wvC μ w).2.1 0 = μ w 2 := en 0 (by omega) (by omega)
  have e3 : (wvC μ w).2.1 3 = μ w 5 := en 3 (by omega) (by omega)
  have e4 : (wvC μ w).2.1 4 = μ w 6 := en 4 (by omega) (by omega)
  refine ⟨by rw [e0]; exact h2, by rw [e3]; exact h3, by rw [e4]; omega, fun f f0 f1 => by rw [en f f0 f1]; exact h5 (f + 2) (by omega) (by omega), fun j j0 j1 => ?_, fun i i0 i1 => ?_⟩
  · rw [e0] at j1
    have e : (wvC μ w).1 j = μ (w + 1) j % 256 := clip_in (n := μ w 2) (j := j) (f := fun j => μ (w + 1) j % 256) j0 j1
    rw [e]
    omega
  · have nc := hn i i0 i1
    rw [e3] at i1
    obtain ⟨t1, t2, t3, t4⟩ := h6 i i0 i1
    have et : (wvC μ w).2.2 i = tv μ (w + 3 + 10 * i) := if_pos ⟨i0, i1⟩
    rw [et] at nc ⊢
    obtain ⟨g1, g2, g3, g4, g5, g6⟩ := t1
    have ok := g1.2
    have hp := ok.1
    refine ⟨ok, g3, g4, ?_, t2, nc.2⟩
    have h0 : 0 ≤ sm (tv μ (w + 3 + 10 * i) 4) (tv μ (w + 3 + 10 * i) 0 0) := sm_nn (fun a a0 a1 => (ok.2.2.2.1 a a0 (by omega)).1.1) (by omega)
    have h1 := nc.1
    unfold pozV
    omega
theorem SOk_of {c : Int} {μ : Mem} (h : CI c μ) (hn : NcS (stC μ)) : SOk (stC μ) := by
  obtain ⟨Mk, hc, hm, hw, hb, hi, g1, g2, n1, o1⟩ := h
  refine ⟨WOk_of hw hc.2 hn.1, fun k k0 k1 => ?_⟩
  have ek : (stC μ).2.1 k = μ 134 k := clip_in (n := 3) (j := k) (f := μ 134) k0 k1
  rw [ek]
  refine ⟨(hi k k0 k1).1, fun e => ?_⟩
  have ew : (stC μ).2.2 k = wvC μ (35 + 33 * k) := if_pos ⟨k0, k1, e⟩
  have nk := hn.2 k k0 k1 (by rw [ek]; exact e)
  rw [ew] at nk ⊢
  exact WOk_of ((hi k k0 k1).2.2 e) hc.2 nk
theorem Pos_of {s : STt} (h : SOk s) : PosS s := ⟨fun i i0 i1 => (h.1.2.2.2.2.2 i i0 i1).2.2.2.1, fun k k0 k1 e i i0 i1 => (((h.2 k k0 k1).2 e).2.2.2.2.2 i i0 i1).2.2.2.1⟩
/-- what holds of class and model between calls -/
def Inv (c : Int) (μ : Mem) : Prop := CI c μ ∧ NcS (stC μ) ∧ stM μ = stC μ
theorem Inv.ok {c : Int} {μ : Mem} (h : Inv c μ) : SOk (stM μ) := by rw [h.2.2]; exact SOk_of h.1 h.2.1
theorem stM_hi {μ m : Mem} (h : ∀ z : Int, 201 ≤ z → m z = μ z) : stM m = stM μ := stM_frame (h 202 (by omega)) (h 203 (by omega))
theorem CI_lo {c : Int} {μ m : Mem} (h : CI c μ) (hf : ∀ z : Int, z < 201 → m z = μ z) : CI c m ∧ stC m = stC μ := ⟨CI_far h (fun z hz => hf z (by omega)), stC_frame h (fun z _ z1 => hf z (by omega))⟩
/-- behind the class's call -/
theorem Inv.mid {c : Int} {μ m : Mem} (h : Inv c μ) (hf : ∀ z : Int, 201 ≤ z → m z = μ z) : SOk (stM m) ∧ stM m = stC μ := by
  rw [stM_hi hf]
  exact ⟨h.ok, h.2.2⟩
theorem Inv.ask {c : Int} {μ m1 m2 : Mem} (h : Inv c μ) (h1 : Ask μ m1) (h2 : AskM m1 m2) : Inv c m2 := by
  obtain ⟨hc, hn, he⟩ := h
  have c1 := h1.1 c hc
  have s1 : stC m1 = stC μ := stC_frame hc (fun z _ z1 => h1.2 z (by omega))
  have m1' : stM m1 = stM μ := stM_hi fun z hz => h1.2 z (by omega)
  have lo := CI_lo c1 (fun z hz => h2 z (by omega))
  exact ⟨lo.1, by rw [lo.2, s1]; exact hn, by rw [h2.st, m1', lo.2, s1]; exact he⟩
theorem Inv.chg {c c' r1 r2 : Int} {x y : STt × Int} {μ m1 m2 : Mem} (hx : y = x) (h1 : CI c' m1) (h2 : stC m1 = x.1) (h3 : r1 = x.2) (hM : ChgM y m1 m2 r2) (hn : NcS x.1) : Inv c' m2 ∧ r1 = r2 := by
  subst hx
  obtain ⟨q1, q2, q3⟩ := hM
  have lo := CI_lo h1 q3
  exact ⟨⟨lo.1, by rw [lo.2, h2]; exact hn, by rw [q1, lo.2, h2]⟩, by rw [h3, q2]⟩
theorem Inv.le {c c' : Int} {μ : Mem} (h : Inv c μ) (h1 : c ≤ c') (h2 : c' ≤ 1000) : Inv c' μ := ⟨CI_le h.1 h1 h2, h.2⟩
