/-! what is told: the tape, numbers (0 length, 1 fault, 2 its place, 3 towns, 4 searches, 5 lies, 6 found, 7 spent, 8 misses), towns -/
abbrev WVt : Type := (Int → Int) × (Int → Int) × (Int → TV)
def tv0 : TV := fun _ _ => 0
def wvC (μ : Mem) (w : Int) : WVt := (clip (μ w 2) (fun j => μ (w + 1) j % 256), clip 9 (fun f => μ w (f + 2)), fun i => if 0 ≤ i ∧ i < μ w 5 then tv μ (w + 3 + 10 * i) else tv0)
/-- what is told, and the images -/
abbrev STt : Type := WVt × (Int → Int) × (Int → WVt)
def wv0 : WVt := (fun _ => 0, fun _ => 0, fun _ => tv0)
def stC (μ : Mem) : STt := (wvC μ 1, clip 3 (μ 134), fun k => if 0 ≤ k ∧ k < 3 ∧ μ 134 k = 1 then wvC μ (35 + 33 * k) else wv0)
/-- the text's part of a town -/
def txt (v : TV) : TV := fun f => match f with
  | 0 => v 0
  | 1 => v 1
  | 2 => v 2
  | 3 => v 3
  | 4 => v 4
  | 5 => v 5
  | 6 => v 6
  | 7 => v 7
  | _ => fun _ => 0
theorem openV_txt (v : TV) (k n : Int) : openV v k n = openV (txt v) k n := rfl
theorem chaV_txt (v : TV) (k : Int) : chaV v k = chaV (txt v) k := rfl
theorem openV_same {v v' : TV} (h : txt v = txt v') (k : Int) : openV v k (8 * v 0 0) = openV v' k (8 * v' 0 0) := by
  have e : v 0 0 = v' 0 0 := congrFun (congrFun h 0) 0
  rw [openV_txt v, openV_txt v', h, e]
theorem ChaR_same {v v' : TV} {k : Int} {μ : Mem} (h : txt v = txt v') (hc : ChaR v k μ) : ChaR v' k μ := by
  have e : v 0 0 = v' 0 0 := congrFun (congrFun h 0) 0
  unfold ChaR at hc ⊢
  rw [chaV_txt v, e] at hc
  rw [chaV_txt v', ← h]
  exact hc
/-- a town that stands, its mark -/
def TG (Mk : Int → TV) (μ : Mem) (t : Int) : Prop := TR μ t ∧ (0 ≤ μ t 2 ∧ μ t 2 ≤ 20) ∧ (1 ≤ μ t 0 ∧ μ t 0 ≤ μ 0 13) ∧ txt (tv μ t) = txt (Mk (μ t 0))
def WI (c : Int) (Mk : Int → TV) (μ : Mem) (w : Int) : Prop := isW w ∧ (0 ≤ μ w 2 ∧ μ w 2 ≤ 500) ∧ (0 ≤ μ w 5 ∧ μ w 5 ≤ 3) ∧ (0 ≤ μ w 6 ∧ μ w 6 ≤ c) ∧ (∀ f : Int, 2 ≤ f → f ≤ 10 → r32 (μ w f)) ∧ ∀ i : Int, 0 ≤ i → i < μ w 5 → TG Mk μ (w + 3 + 10 * i)
def BY (μ : Mem) (z : Int) : Prop := ∀ j : Int, 0 ≤ j → j < 500 → -128 ≤ μ z j ∧ μ z j ≤ 127
def NC (Mk : Int → TV) (μ : Mem) : Prop := (0 ≤ μ 186 9 ∧ μ 186 9 ≤ μ 0 13) ∧ (0 ≤ μ 186 10 ∧ μ 186 10 ≤ 5) ∧ (1 ≤ μ 186 10 → ChaR (Mk (μ 186 9)) (μ 186 10) μ)
def OC (Mk : Int → TV) (μ : Mem) : Prop := (0 ≤ μ 178 4 ∧ μ 178 4 ≤ μ 0 13) ∧ (0 ≤ μ 178 5 ∧ μ 178 5 ≤ 20) ∧ (1 ≤ μ 178 5 → OpR μ (openV (Mk (μ 178 4)) (μ 178 5) (8 * Mk (μ 178 4) 0 0)))
/-- what holds of the object between calls; c: calls so far -/
def CI (c : Int) (μ : Mem) : Prop := ∃ Mk : Int → TV, (0 ≤ c ∧ c ≤ 1000) ∧ (0 ≤ μ 0 13 ∧ μ 0 13 ≤ c) ∧ WI c Mk μ 1 ∧ BY μ 2 ∧ (∀ k : Int, 0 ≤ k → k < 3 → (μ 134 k = 0 ∨ μ 134 k = 1) ∧ BY μ (36 + 33 * k) ∧ (μ 134 k = 1 → WI c Mk μ (35 + 33 * k))) ∧ GInv μ 156 ∧ GInv μ 167 ∧ NC Mk μ ∧ OC Mk μ
theorem TG_frame {Mk : Int → TV} {μ m : Mem} {t : Int} (h : TG Mk μ t) (hf : ∀ z : Int, t ≤ z → z ≤ t + 9 → m z = μ z) (h0 : m 0 13 = μ 0 13) : TG Mk m t := by
  obtain ⟨h1, h2, h3, h4⟩ := h
  unfold TG
  rw [tv_frame hf, hf t (by omega) (by omega), h0]
  exact ⟨TR_frame h1 hf, h2, h3, h4⟩
theorem isW_hi {w : Int} (h : isW w) : w = 1 ∨ w = 35 ∨ w = 68 ∨ w = 101 := by
  unfold isW at h
  simpa using h
theorem WI_frame {c : Int} {Mk : Int → TV} {μ m : Mem} {w : Int} (h : WI c Mk μ w) (hf : ∀ z : Int, w ≤ z → z ≤ w + 32 → m z = μ z) (h0 : m 0 13 = μ 0 13) : WI c Mk m w := by
  obtain ⟨h1, h2, h3, h4, h5, h6⟩ := h
  unfold WI
  rw [hf w (by omega) (by omega)]
  exact ⟨h1, h2, h3, h4, h5, fun i i0 i1 => TG_frame (h6 i i0 i1) (fun z z0 z1 => hf z (by omega) (by omega)) h0⟩
/-- the scratch objects may change -/
theorem CI_keep {c : Int} {μ m : Mem} (h : CI c μ) (hf : ∀ z : Int, z < 145 → m z = μ z) (g1 : GInv m 156) (g2 : GInv m 167) (hn : ∀ Mk : Int → TV, WI c Mk μ 1 → NC Mk μ → NC Mk m) (ho : ∀ Mk : Int → TV, WI c Mk μ 1 → OC Mk μ → OC Mk m) : CI c m := by
  obtain ⟨Mk, hc, hm, hw, hb, hi, _, _, n1, o1⟩ := h
  have e0 : m 0 = μ 0 := hf 0 (by omega)
  refine ⟨Mk, hc, by rw [e0]; exact hm, WI_frame hw (fun z z0 z1 => hf z (by omega)) (by rw [e0]), by unfold BY; rw [hf 2 (by omega)]; exact hb, fun k k0 k1 => ?_, g1, g2, hn Mk hw n1, ho Mk hw o1⟩
  have q := hi k k0 k1
  rw [hf 134 (by omega)]
  refine ⟨q.1, by unfold BY; rw [hf (36 + 33 * k) (by omega)]; exact q.2.1, fun e => WI_frame (q.2.2 e) (fun z z0 z1 => hf z (by omega)) (by rw [e0])⟩
theorem NC_frame {Mk : Int → TV} {μ m : Mem} (h : NC Mk μ) (h0 : m 0 = μ 0) (h1 : m 186 = μ 186) (h2 : m 192 = μ 192) : NC Mk m := by
  unfold NC ChaR at *
  rw [h0, h1, h2]
  exact h
theorem OC_frame {Mk : Int → TV} {μ m : Mem} (h : OC Mk μ) (h0 : m 0 = μ 0) (h1 : m 178 = μ 178) : OC Mk m := by
  unfold OC OpR at *
  rw [h0, h1]
  exact h
/-- where games, openings and nights stay as they are -/
theorem CI_far {c : Int} {μ m : Mem} (h : CI c μ) (hf : ∀ z : Int, (z < 145 ∨ (156 ≤ z ∧ z ≤ 178) ∨ z = 186 ∨ z = 192) → m z = μ z) : CI c m := by
  have h2 := h
  obtain ⟨Mk, hc, hm, hw, hb, hi, g1, g2, n1, o1⟩ := h2
  exact CI_keep h (fun z hz => hf z (by omega)) (GInv_frame g1 (fun z z0 z1 => hf z (by omega))) (GInv_frame g2 (fun z z0 z1 => hf z (by omega))) (fun Mk _ q => NC_frame q (hf 0 (by omega)) (hf 186 (by omega)) (hf 192 (by omega))) (fun Mk _ q => OC_frame q (hf 0 (by omega)) (hf 178 (by omega)))
theorem wvC_frame {c : Int} {Mk : Int → TV} {μ m : Mem} {w : Int} (h : WI c Mk μ w) (hf : ∀ z : Int, w ≤ z → z ≤ w + 32 → m z = μ z) : wvC m w = wvC μ w := by
  have hb := h.2.2.1
  unfold wvC
  rw [hf w (by omega) (by omega), hf (w + 1) (by omega) (by omega)]
  refine Prod.ext rfl (Prod.ext rfl ?_)
  funext i
  show (if 0 ≤ i ∧ i < μ w 5 then tv m (w + 3 + 10 * i) else tv0) = if 0 ≤ i ∧ i < μ w 5 then tv μ (w + 3 + 10 * i) else tv0
  by_cases q : 0 ≤ i ∧ i < μ w 5
  · rw [if_pos q, if_pos q]
    exact tv_frame fun z z0 z1 => hf z (by omega) (by omega)
  · rw [if_neg q, if_neg q]
theorem stC_frame {c : Int} {μ m : Mem} (h : CI c μ) (hf : ∀ z : Int, 0 ≤ z → z < 135 → m z = μ z) : stC m = stC μ := by
  obtain ⟨Mk, hc, hm, hw, hb, hi, g1, g2, n1, o1⟩ := h
  unfold stC
  rw [wvC_frame hw (fun z z0 z1 => hf z (by omega) (by omega)), hf 134 (by omega) (by omega)]
  refine Prod.ext rfl (Prod.ext rfl ?_)
  funext k
  show (if 0 ≤ k ∧ k < 3 ∧ μ 134 k = 1 then wvC m (35 + 33 * k) else wv0) = if 0 ≤ k ∧ k < 3 ∧ μ 134 k = 1 then wvC μ (35 + 33 * k) else wv0
  by_cases q : 0 ≤ k ∧ k < 3 ∧ μ 134 k = 1
  · rw [if_pos q, if_pos q, wvC_frame ((hi k q.1 q.2.1).2.2 q.2.2) (fun z z0 z1 => hf z (by omega) (by omega))]
  · rw [if_neg q, if_neg q]
/-- the town of a number -/
theorem town_at {c : Int} {μ : Mem} (h : CI c μ) {n : Int} (rn : r32 n) : P_X9_townAt 1 n μ ∧ ∀ r : Int, Q_X9_townAt 1 n μ r → (r < 0 ∧ ¬ (0 ≤ n ∧ n < μ 1 5)) ∨ (¬ r < 0 ∧ (0 ≤ n ∧ n < μ 1 5 ∧ n < 3) ∧ r = 4 + 10 * n ∧ TR μ r ∧ (0 ≤ μ r 2 ∧ μ r 2 ≤ 20) ∧ r32 (μ r 0)) := by
  obtain ⟨Mk, hc, hm, hw, hb, hi, g1, g2, n1, o1⟩ := h
  obtain ⟨w1, w2, w3, w4, w5, w6⟩ := hw
  refine ⟨⟨w1, rn, w3⟩, fun r hq => ?_⟩
  by_cases c : 0 ≤ n ∧ n < μ 1 5
  · right
    have e := hq.1 c
    have e2 : r = 4 + 10 * n := by omega
    have t := w6 n c.1 c.2
    have e3 : (1 : Int) + 3 + 10 * n = 4 + 10 * n := by omega
    rw [e3, ← e2] at t
    exact ⟨by omega, by omega, e2, t.1, t.2.1, rr (by have := t.2.2.1; omega)⟩
  · left
    have e := hq.2.1 c
    exact ⟨by omega, c⟩
/-- an answer about a town -/
def onT (w : WVt) (n : Int) (d : Int) (f : TV → Int) : Int := if 0 ≤ n ∧ n < w.2.1 3 then f (w.2.2 n) else d
theorem onT_no {μ : Mem} {n d : Int} {f : TV → Int} (h : ¬ (0 ≤ n ∧ n < μ 1 5)) : onT (wvC μ 1) n d f = d := by
  unfold onT
  have e : (wvC μ 1).2.1 3 = μ 1 5 := (clip_in (n := 9) (j := 3) (f := fun f => μ 1 (f + 2)) (by omega) (by omega) : clip 9 (fun f => μ 1 (f + 2)) 3 = μ 1 (3 + 2))
  rw [e, if_neg h]
theorem onT_yes {μ : Mem} {n d : Int} {f : TV → Int} (h : 0 ≤ n ∧ n < μ 1 5) : onT (wvC μ 1) n d f = f (tv μ (4 + 10 * n)) := by
  unfold onT
  have e : (wvC μ 1).2.1 3 = μ 1 5 := (clip_in (n := 9) (j := 3) (f := fun f => μ 1 (f + 2)) (by omega) (by omega) : clip 9 (fun f => μ 1 (f + 2)) 3 = μ 1 (3 + 2))
  rw [e, if_pos h]
  have e2 : (wvC μ 1).2.2 n = tv μ (1 + 3 + 10 * n) := if_pos h
  have e3 : (1 : Int) + 3 + 10 * n = 4 + 10 * n := by omega
  rw [e2, e3]
/-- a question: it changes nothing that is told -/
def Ask (μ μ' : Mem) : Prop := (∀ c : Int, CI c μ → CI c μ') ∧ ∀ z : Int, (z < 145 ∨ 201 ≤ z) → μ' z = μ z
theorem Ask_0 (μ : Mem) : Ask μ μ := ⟨fun _ h => h, fun _ _ => rfl⟩
theorem Ask_far {μ m : Mem} (hf : ∀ z : Int, (z < 145 ∨ (156 ≤ z ∧ z ≤ 178) ∨ z = 186 ∨ z = 192 ∨ 201 ≤ z) → m z = μ z) : Ask μ m := ⟨fun _ h => CI_far h (fun z hz => hf z (by omega)), fun z hz => hf z (by omega)⟩
