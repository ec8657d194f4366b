/-! what a call changes of all that is told: searches, images -/
theorem clip_ext {n : Int} {f g : Int → Int} (h : ∀ j : Int, 0 ≤ j → j < n → f j = g j) : clip n f = clip n g := by
  funext j
  unfold clip
  by_cases c : 0 ≤ j ∧ j < n
  · rw [if_pos c, if_pos c]; exact h j c.1 c.2
  · rw [if_neg c, if_neg c]
theorem CI_le {c c' : Int} {μ : Mem} (h : CI c μ) (h1 : c ≤ c') (h2 : c' ≤ 1000) : CI c' μ := by
  obtain ⟨Mk, hc, hm, hw, hb, hi, g1, g2, n1, o1⟩ := h
  have up : ∀ w : Int, WI c Mk μ w → WI c' Mk μ w := fun w q => ⟨q.1, q.2.1, q.2.2.1, ⟨q.2.2.2.1.1, Int.le_trans q.2.2.2.1.2 h1⟩, q.2.2.2.2⟩
  exact ⟨Mk, by omega, by omega, up 1 hw, hb, fun k k0 k1 => ⟨(hi k k0 k1).1, (hi k k0 k1).2.1, fun e => up _ ((hi k k0 k1).2.2 e)⟩, g1, g2, n1, o1⟩
/-- a call that may count -/
def Chg1 (x : STt × Int) (μ μ' : Mem) (r : Int) : Prop := (∀ c, c ≤ 999 → CI c μ → CI (c + 1) μ') ∧ stC μ' = x.1 ∧ r = x.2 ∧ ∀ z : Int, 201 ≤ z → μ' z = μ z
theorem Chg1_0 (s : STt) {μ : Mem} {r : Int} (h : s = stC μ) : Chg1 (s, r) μ μ r := ⟨fun _ h1 h => CI_le h (by omega) (by omega), h.symm, rfl, fun _ _ => rfl⟩
theorem CI_nums {c : Int} {μ m : Mem} (h : CI c μ) (hf : ∀ z : Int, z ≠ 1 → (z < 135 ∨ 148 < z) → m z = μ z) (h2 : 0 ≤ m 1 2 ∧ m 1 2 ≤ 500) (h5 : m 1 5 = μ 1 5) (h6 : 0 ≤ m 1 6 ∧ m 1 6 ≤ c) (hr : ∀ f : Int, 2 ≤ f → f ≤ 10 → r32 (m 1 f)) : CI c m := by
  obtain ⟨Mk, hc, hm, hw, hb, hi, g1, g2, n1, o1⟩ := h
  have e0 : m 0 = μ 0 := hf 0 (by omega) (by omega)
  refine ⟨Mk, hc, by rw [e0]; exact hm, ?_, by unfold BY; rw [hf 2 (by omega) (by omega)]; exact hb, fun k k0 k1 => ?_, GInv_frame g1 (fun z z0 z1 => hf z (by omega) (by omega)), GInv_frame g2 (fun z z0 z1 => hf z (by omega) (by omega)), NC_frame n1 e0 (hf 186 (by omega) (by omega)) (hf 192 (by omega) (by omega)), OC_frame o1 e0 (hf 178 (by omega) (by omega))⟩
  · obtain ⟨w1, w2, w3, w4, w5, w6⟩ := hw
    unfold WI
    rw [h5]
    exact ⟨w1, h2, w3, h6, hr, fun i i0 i1 => TG_frame (w6 i i0 i1) (fun z z0 z1 => hf z (by omega) (by omega)) (by rw [e0])⟩
  · have q := hi k k0 k1
    rw [hf 134 (by omega) (by omega)]
    exact ⟨q.1, by unfold BY; rw [hf (36 + 33 * k) (by omega) (by omega)]; exact q.2.1, fun e => WI_frame (q.2.2 e) (fun z z0 z1 => hf z (by omega) (by omega)) (by rw [e0])⟩
theorem stC_nums {c : Int} {μ m : Mem} (h : CI c μ) (hf : ∀ z : Int, z ≠ 1 → (z < 135 ∨ 148 < z) → m z = μ z) (h5 : m 1 5 = μ 1 5) : stC m = ((clip (m 1 2) (fun j => μ 2 j % 256), clip 9 (fun f => m 1 (f + 2)), (stC μ).1.2.2), (stC μ).2) := by
  obtain ⟨Mk, hc, hm, hw, hb, hi, g1, g2, n1, o1⟩ := h
  have hb5 := hw.2.2.1
  unfold stC
  refine Prod.ext (Prod.ext ?_ (Prod.ext rfl ?_)) (Prod.ext ?_ ?_)
  · show clip (m 1 2) (fun j => m 2 j % 256) = clip (m 1 2) (fun j => μ 2 j % 256)
    rw [hf 2 (by omega) (by omega)]
  · funext i
    show (if 0 ≤ i ∧ i < m 1 5 then tv m (1 + 3 + 10 * i) else tv0) = if 0 ≤ i ∧ i < μ 1 5 then tv μ (1 + 3 + 10 * i) else tv0
    rw [h5]
    by_cases q : 0 ≤ i ∧ i < μ 1 5
    · rw [if_pos q, if_pos q]
      exact tv_frame fun z z0 z1 => hf z (by omega) (by omega)
    · rw [if_neg q, if_neg q]
  · show clip 3 (m 134) = clip 3 (μ 134)
    rw [hf 134 (by omega) (by omega)]
  · funext k
    show (if 0 ≤ k ∧ k < 3 ∧ m 134 k = 1 then wvC m (35 + 33 * k) else wv0) = if 0 ≤ k ∧ k < 3 ∧ μ 134 k = 1 then wvC μ (35 + 33 * k) else wv0
    rw [hf 134 (by omega) (by omega)]
    by_cases q : 0 ≤ k ∧ k < 3 ∧ μ 134 k = 1
    · rw [if_pos q, if_pos q, wvC_frame ((hi k q.1 q.2.1).2.2 q.2.2) (fun z z0 z1 => hf z (by omega) (by omega))]
    · rw [if_neg q, if_neg q]
theorem st_n {μ : Mem} {f : Int} (h : 0 ≤ f ∧ f < 9) : (stC μ).1.2.1 f = μ 1 (f + 2) := clip_in (n := 9) (j := f) (f := fun f => μ 1 (f + 2)) h.1 h.2
/-- every town has a chance -/
def pozV (v : TV) : Prop := 0 < sm (v 4) (v 0 0)
def PosS (s : STt) : Prop := (∀ i : Int, 0 ≤ i → i < s.1.2.1 3 → pozV (s.1.2.2 i)) ∧ ∀ k : Int, 0 ≤ k → k < 3 → s.2.1 k = 1 → ∀ i : Int, 0 ≤ i → i < (s.2.2 k).2.1 3 → pozV ((s.2.2 k).2.2 i)
theorem seek_bd {v : TV} (ok : TVok v) {lies x : Int} : ∀ n : Int, 0 ≤ n → n ≤ cntV v → (0 ≤ (seekV v lies x n).2.1 ∧ (seekV v lies x n).2.1 ≤ n) ∧ (0 ≤ (seekV v lies x n).2.2.1 ∧ (seekV v lies x n).2.2.1 ≤ 99 * n) ∧ (0 ≤ (seekV v lies x n).2.2.2 ∧ (seekV v lies x n).2.2.2 ≤ n) := by
  refine nat_ind (P := fun n => n ≤ cntV v → (0 ≤ (seekV v lies x n).2.1 ∧ (seekV v lies x n).2.1 ≤ n) ∧ (0 ≤ (seekV v lies x n).2.2.1 ∧ (seekV v lies x n).2.2.1 ≤ 99 * n) ∧ (0 ≤ (seekV v lies x n).2.2.2 ∧ (seekV v lies x n).2.2.2 ≤ n)) (fun _ => ⟨⟨Int.le_refl 0, Int.le_refl 0⟩, ⟨Int.le_refl 0, Int.le_refl 0⟩, ⟨Int.le_refl 0, Int.le_refl 0⟩⟩) (fun i i0 ih hi => ?_)
  have h := ih (by omega)
  have hp := ok.1
  rcases rowV_ok (v := v) (by omega) i with e | hr
  · exact absurd e (cntV_row i0 (by omega))
  · have hd := (ok.2.2.2.1 (rowV v i) hr.1.1 (by omega)).2.2
    rw [seekV_s i0]
    unfold seekF
    split
    · exact ⟨by omega, by omega, by omega⟩
    · split
      · exact ⟨⟨Int.le_refl 0, by show (0 : Int) ≤ i + 1; omega⟩, ⟨by show 0 ≤ _ + v 6 _; omega, by show _ + v 6 _ ≤ 99 * (i + 1); omega⟩, ⟨h.2.2.1, by show (seekV v lies x i).2.2.2 ≤ i + 1; omega⟩⟩
      · split
        · exact ⟨⟨by show 0 ≤ i + 1; omega, Int.le_refl _⟩, ⟨by show 0 ≤ _ + v 6 _; omega, by show _ + v 6 _ ≤ 99 * (i + 1); omega⟩, ⟨h.2.2.1, by show (seekV v lies x i).2.2.2 ≤ i + 1; omega⟩⟩
        · exact ⟨⟨Int.le_refl 0, by show (0 : Int) ≤ i + 1; omega⟩, ⟨by show 0 ≤ _ + v 6 _; omega, by show _ + v 6 _ ≤ 99 * (i + 1); omega⟩, ⟨by show 0 ≤ (seekV v lies x i).2.2.2 + 1; omega, by show (seekV v lies x i).2.2.2 + 1 ≤ i + 1; omega⟩⟩
theorem TCopy_tv {μ m : Mem} {t u : Int} (h : TCopy μ m t u) (ok : TVok (tv μ u)) : tv m t = tv μ u := by
  obtain ⟨h1, h2, h3, h4, h5⟩ := h
  have w8 : 0 ≤ μ u 12 ∧ μ u 12 ≤ 8 := ok.2.2.2.2.2.2.2.1
  have dd : 0 ≤ μ u 16 ∧ μ u 16 ≤ 7 := ok.2.2.2.2.2.2.2.2.2.1
  have ws := ok.2.2.2.2.2.2.2.2.1
  have cc : ∀ (N : Int) (f g : Int → Int), (∀ j : Int, 0 ≤ j → j < N → f j = g j) → clip N f = clip N g := fun N f g q => by
    funext j
    unfold clip
    by_cases c : 0 ≤ j ∧ j < N
    · rw [if_pos c, if_pos c]; exact q j c.1 c.2
    · rw [if_neg c, if_neg c]
  funext f
  match f with
  | 0 => show (fun _ => m t 1) = (fun _ => μ u 1); rw [h1 1 (by omega)]
  | 1 => show (fun _ => m t 2) = (fun _ => μ u 2); rw [h1 2 (by omega)]
  | 2 => show (fun _ => m t 5) = (fun _ => μ u 5); rw [h1 5 (by omega)]
  | 3 => show (fun _ => m t 6) = (fun _ => μ u 6); rw [h1 6 (by omega)]
  | 4 => exact cc 8 _ _ fun j j0 j1 => (h3 j j0 j1).1
  | 5 => exact cc 8 _ _ fun j j0 j1 => (h3 j j0 j1).2.1
  | 6 => exact cc 8 _ _ fun j j0 j1 => (h3 j j0 j1).2.2.1
  | 7 => exact cc 64 _ _ fun j j0 j1 => (h2 j j0 j1).1
  | 8 => show (fun _ => m t 12) = (fun _ => μ u 12); rw [h1 12 (by omega)]
  | 9 => show clip (m t 12) (m (t + 7)) = clip (μ u 12) (μ (u + 7)); rw [h1 12 (by omega)]; exact cc _ _ _ fun j j0 j1 => (h3 j j0 (by omega)).2.2.2.1
  | 10 => show clip (m t 12) (m (t + 8)) = clip (μ u 12) (μ (u + 8)); rw [h1 12 (by omega)]; exact cc _ _ _ fun j j0 j1 => (h3 j j0 (by omega)).2.2.2.2
  | 11 =>
    funext j
    show (if 0 ≤ j ∧ j / 16 < m t 12 ∧ j % 16 < m (t + 7) (j / 16) then m (t + 6) j else 0) = if 0 ≤ j ∧ j / 16 < μ u 12 ∧ j % 16 < μ (u + 7) (j / 16) then μ (u + 6) j else 0
    rw [h1 12 (by omega)]
    by_cases c : 0 ≤ j ∧ j / 16 < μ u 12
    · rw [(h3 (j / 16) (by omega) (by omega)).2.2.2.1, h4 j c.1 (by omega)]
    · rw [if_neg (fun q => c ⟨q.1, q.2.1⟩), if_neg (fun q => c ⟨q.1, q.2.1⟩)]
  | 12 => show (fun _ => m t 16) = (fun _ => μ u 16); rw [h1 16 (by omega)]
  | n + 13 => show clip (m t 16) (m (t + 9)) = clip (μ u 16) (μ (u + 9)); rw [h1 16 (by omega)]; exact cc _ _ _ fun j j0 j1 => h5 j j0 (by omega)
theorem TR_copy {μ m : Mem} {t u : Int} (h : TR μ u) (ht : isT t) (hc : TCopy μ m t u) : TR m t := by
  obtain ⟨g1, g2, g3, g4, g5, g6⟩ := h
  have e := TCopy_tv hc g1.2
  unfold TR TB WY
  rw [e]
  have hp : 2 ≤ tv μ u 0 0 ∧ tv μ u 0 0 ≤ 8 := g1.2.1
  refine ⟨⟨ht, g1.2⟩, fun a b a0 a1 b0 b1 => ?_, g3, g4, ?_, ?_⟩
  · rw [(hc.2.1 (8 * a + b) (by omega) (by omega)).2]
    exact g2 a b a0 a1 b0 b1
  · rw [hc.1 3 (by omega)]; exact g5
  · rw [hc.1 4 (by omega)]; exact g6
theorem TG_copy {Mk : Int → TV} {μ m : Mem} {t u : Int} (h : TG Mk μ u) (ht : isT t) (hc : TCopy μ m t u) (h0 : m 0 13 = μ 0 13) : TG Mk m t := by
  obtain ⟨h1, h2, h3, h4⟩ := h
  unfold TG
  rw [TCopy_tv hc h1.1.2, hc.1 0 (by omega), hc.1 2 (by omega), h0]
  exact ⟨TR_copy h1 ht hc, h2, h3, h4⟩
theorem WI_copy {c : Int} {Mk : Int → TV} {μ m : Mem} {w z : Int} (h : WI c Mk μ z) (hw : isW w) (hc : WCopy μ m w z) (h0 : m 0 13 = μ 0 13) : WI c Mk m w := by
  obtain ⟨h1, h2, h3, h4, h5, h6⟩ := h
  unfold WI
  rw [hc.1 2 (by omega) (by omega), hc.1 5 (by omega) (by omega), hc.1 6 (by omega) (by omega)]
  exact ⟨hw, h2, h3, h4, fun f f0 f1 => by rw [hc.1 f f0 f1]; exact h5 f f0 f1, fun i i0 i1 => TG_copy (h6 i i0 i1) (isW_T hw i0 (by omega)) (hc.2.2 i i0 (by omega)) h0⟩
theorem wvC_copy {c : Int} {Mk : Int → TV} {μ m : Mem} {w z : Int} (h : WI c Mk μ z) (hc : WCopy μ m w z) : wvC m w = wvC μ z := by
  obtain ⟨h1, h2, h3, h4, h5, h6⟩ := h
  unfold wvC
  rw [hc.1 2 (by omega) (by omega), hc.1 5 (by omega) (by omega)]
  refine Prod.ext ?_ (Prod.ext ?_ ?_)
  · show clip (μ z 2) (fun j => m (w + 1) j % 256) = clip (μ z 2) (fun j => μ (z + 1) j % 256)
    exact clip_ext fun j j0 j1 => by rw [hc.2.1 j j0 (by omega)]
  · show clip 9 (fun f => m w (f + 2)) = clip 9 (fun f => μ z (f + 2))
    exact clip_ext fun f f0 f1 => hc.1 (f + 2) (by omega) (by omega)
  · funext i
    show (if 0 ≤ i ∧ i < μ z 5 then tv m (w + 3 + 10 * i) else tv0) = if 0 ≤ i ∧ i < μ z 5 then tv μ (z + 3 + 10 * i) else tv0
    by_cases c : 0 ≤ i ∧ i < μ z 5
    · rw [if_pos c, if_pos c]
      exact TCopy_tv (hc.2.2 i c.1 (by omega)) (h6 i c.1 c.2).1.1.2
    · rw [if_neg c, if_neg c]
def liV (v : TV) (k : Int) : Int := liesV v (sm (v 4) (v 0 0)) k
def rnV (v : TV) (a k : Int) : RS := runV v (sm (v 4) (v 0 0)) a k
def runS (s : STt) (n a k : Int) : STt × Int := if (0 ≤ n ∧ n < s.1.2.1 3) ∧ 0 ≤ a ∧ a ≤ 64 then (((s.1.1, upd1 (upd1 (upd1 (upd1 (upd1 s.1.2.1 4 (s.1.2.1 4 + 1)) 5 (liV (s.1.2.2 n) k)) 6 (rnV (s.1.2.2 n) a k).2.1) 7 (rnV (s.1.2.2 n) a k).2.2.1) 8 (rnV (s.1.2.2 n) a k).2.2.2, s.1.2.2), s.2), (rnV (s.1.2.2 n) a k).2.1) else (s, -1)
def P_X10_run (o n a k : Int) (μ : Mem) : Prop := o = 0 ∧ (∃ c, c ≤ 999 ∧ CI c μ) ∧ PosS (stC μ) ∧ r32 n ∧ r32 a ∧ r32 k
def Q_X10_run (_ n a k : Int) (μ μ' : Mem) (r : Int) : Prop := Chg1 (runS (stC μ) n a k) μ μ' r
def S_X10_run : S0t := fun as μ Q => match as with
  | [(2, x0), (0, x1), (0, x2), (0, x3)] => P_X10_run x0 x1 x2 x3 μ ∧ ∀ (μ' : Mem) (r : Int), Q_X10_run x0 x1 x2 x3 μ μ' r → Q μ' (some (kI r))
  | _ => False
theorem mono_X10_run : Mono S_X10_run := by
  intro as μ Q Q' h hS
  unfold S_X10_run at hS ⊢
  split at hS
  · exact ⟨hS.1, fun μ' r q => h _ _ (hS.2 _ _ q)⟩
  · exact hS.elim
def iX10_run : Inf := (kX10_run, fTX10, pTX10, cTX10, lTX10, sTX10, [(110, 0, 1, 9, S_X9_townAt), (297, 0, 1, 1, S_X1_plan), (362, 0, 4, 9, S_X9_seek)])
theorem ok_X10_run : infOK iX10_run mX10_run RX10 3 70 := ⟨kkX10_run, fTX10_ok, pTX10_ok _, cTX10_ok, lTX10_ok, sTX10_ok, c_cons ⟨mX9_townAt, 0, 0, ct_X9_townAt, mmX9_townAt, vvX9_townAt, lkX10_110, ⟨by decide, by decide⟩, ⟨_, _, rfl⟩, by decide, mono_X9_townAt⟩ (c_cons ⟨mX1_plan, 2, 45, ct_X1_plan, mmX1_plan, vvX1_plan, lkX10_297, ⟨by decide, by decide⟩, ⟨_, _, rfl⟩, by decide, mono_X1_plan⟩ (c_cons ⟨mX9_seek, 1, 23, ct_X9_seek, mmX9_seek, vvX9_seek, lkX10_362, ⟨by decide, by decide⟩, ⟨_, _, rfl⟩, by decide, mono_X9_seek⟩ (c_nil)))⟩
theorem mt_X10_run : mtOK [] RX10 3 70 := mt_nil
abbrev V_X10_run (R : Mem → Option AV → Prop) (pc : Nat) (lc : List (Nat × AV)) (μ : Mem) : Prop := VM mX10_run RX10 3 70 R pc lc [] μ
set_option maxRecDepth 20000 in
theorem vc_X10_run_0 {R : Mem → Option AV → Prop} {n a k : Int} {μ : Mem} (H : P_X9_townAt 1 n μ ∧ (∀ (rv2 : Int), Q_X9_townAt 1 n μ rv2 → (rv2 < 0 → R μ (some (kI (-1)))) ∧ (¬ rv2 < 0 → r32 a ∧ ((a < 0) → R μ (some (kI (-1)))) ∧ (¬ (a < 0) → r32 a ∧ ((a ≤ (64 : Int)) → P_X1_plan 180 rv2 μ ∧ (∀ (μ4 : Mem), Q_X1_plan 180 rv2 μ μ4 → V_X10_run R 36 [(0, kR 0), (2, kI a), (3, kI k), (4, kR rv2)] μ4)) ∧ (¬ (a ≤ (64 : Int)) → R μ (some (kI (-1)))))))) : V_X10_run R 0 [(0, kR 0), (1, kI n), (2, kI a), (3, kI k)] μ := by
  refine vm_step2 mt_X10_run ok_X10_run [(36, [0, 2, 3, 4]), (51, [0])] 1000 ?_
  show isC 0 10 ∧ isC 1 9 ∧ P_X9_townAt 1 n μ ∧ (∀ (rv2 : Int), Q_X9_townAt 1 n μ rv2 → (rv2 < 0 → R μ (some (kI (-1)))) ∧ (¬ rv2 < 0 → r32 a ∧ ((a < 0) → R μ (some (kI (-1)))) ∧ (¬ (a < 0) → (r32 a ∧ r32 (64 : Int)) ∧ ((a ≤ (64 : Int)) → isC 0 10 ∧ isC 180 1 ∧ P_X1_plan 180 rv2 μ ∧ (∀ (μ4 : Mem), Q_X1_plan 180 rv2 μ μ4 → V_X10_run R 36 [(0, kR 0), (2, kI a), (3, kI k), (4, kR rv2)] μ4)) ∧ (¬ (a ≤ (64 : Int)) → R μ (some (kI (-1)))))))
  exact ⟨c_0, ⟨c_1, H.1, fun rv2 hq3 => ⟨fun hz9 => ((H.2 rv2 hq3).1 hz9), fun hz9 => have h_rv2 := hq3.2.2 hz9; ⟨((H.2 rv2 hq3).2 hz9).1, fun hc8 => (((H.2 rv2 hq3).2 hz9).2.1 hc8), fun hc8 => ⟨⟨(((H.2 rv2 hq3).2 hz9).2.2 hc8).1, by unfold r32; omega⟩, fun hc7 => ⟨c_0, ⟨c_180, ((((H.2 rv2 hq3).2 hz9).2.2 hc8).2.1 hc7).1, fun μ4 hq6 => (((((H.2 rv2 hq3).2 hz9).2.2 hc8).2.1 hc7).2 μ4 hq6)⟩⟩, fun hc7 => ((((H.2 rv2 hq3).2 hz9).2.2 hc8).2.2 hc7)⟩⟩⟩⟩⟩
set_option maxRecDepth 20000 in
theorem vc_X10_run_36 {R : Mem → Option AV → Prop} {a k t : Int} {μ : Mem} (ht : isT t) (H : P_X9_seek 1 t 180 a k μ ∧ (∀ (μ10 : Mem), Q_X9_seek 1 t 180 a k μ μ10 → V_X10_run R 51 [(0, kR 0)] μ10)) : V_X10_run R 36 [(0, kR 0), (2, kI a), (3, kI k), (4, kR t)] μ := by
  refine vm_step2 mt_X10_run ok_X10_run [(36, [0, 2, 3, 4]), (51, [0])] 1000 ?_
  show isC 0 10 ∧ isC 0 10 ∧ isC 1 9 ∧ P_X9_seek 1 t 180 a k μ ∧ (∀ (μ10 : Mem), Q_X9_seek 1 t 180 a k μ μ10 → V_X10_run R 51 [(0, kR 0)] μ10)
  exact ⟨c_0, ⟨c_0, ⟨c_1, H.1, fun μ10 hq12 => (H.2 μ10 hq12)⟩⟩⟩
set_option maxRecDepth 20000 in
theorem vc_X10_run_51 {R : Mem → Option AV → Prop} {μ : Mem} (H : R μ (some (kI (μ 1 8)))) : V_X10_run R 51 [(0, kR 0)] μ := by
  refine vm_step2 mt_X10_run ok_X10_run [(36, [0, 2, 3, 4]), (51, [0])] 1000 ?_
  show isC 0 10 ∧ isC 1 9 ∧ R μ (some (kI (μ 1 8)))
  exact ⟨c_0, ⟨c_1, H⟩⟩
theorem body_X10_run {o n a k : Int} {μ : Mem} {R : Mem → Option AV → Prop} (h : P_X10_run o n a k μ) (hR : ∀ (μ' : Mem) (r : Int), Q_X10_run o n a k μ μ' r → R μ' (some (kI r))) : V_X10_run R 0 [(0, kR o), (1, kI n), (2, kI a), (3, kI k)] μ := by
  obtain ⟨rfl, ⟨c, c9, hc⟩, hp, r_n, r_a, r_k⟩ := h
  obtain ⟨pt, hat⟩ := town_at hc r_n
  have no : ¬ ((0 ≤ n ∧ n < μ 1 5) ∧ 0 ≤ a ∧ a ≤ 64) → Q_X10_run 0 n a k μ μ (-1) := fun q => by
    unfold Q_X10_run runS
    rw [st_3, if_neg q]
    exact Chg1_0 _ rfl
  refine vc_X10_run_0 ⟨pt, fun t q => ?_⟩
  rcases hat t q with ⟨hneg, hno⟩ | ⟨hpos, hn, ht, hr, hl, hm⟩
  · exact ⟨fun _ => hR μ _ (no (fun q => hno q.1)), fun q => absurd hneg q⟩
  · refine ⟨fun q => absurd q hpos, fun _ => ⟨r_a, fun c1 => hR μ _ (no (by omega)), fun c1 => ⟨r_a, fun c2 => ⟨plan_P hr, fun m4 q4 => ?_⟩, fun c2 => hR μ _ (no (by omega))⟩⟩⟩
    have h1 : isW 1 := by unfold isW; decide
    have hf4 : ∀ z : Int, z < 145 → m4 z = μ z := fun z hz => q4.2 z (by omega)
    have e4 : tv m4 t = tv μ t := tv_frame fun z z0 z1 => hf4 z (by omega)
    have t4 : TR m4 t := TR_frame hr fun z z0 z1 => hf4 z (by omega)
    have ok := hr.1.2
    have hpz : 0 < sm (tv μ t 4) (tv μ t 0 0) := by
      have := hp.1 n hn.1 (by rw [st_3]; exact hn.2.1)
      rw [st_t ⟨hn.1, hn.2.1⟩ ht] at this
      exact this
    have hall : μ t 3 = sm (tv μ t 4) (tv μ t 0 0) := hr.2.2.2.2.1
    have h43 : m4 t 3 = μ t 3 := by rw [hf4 t (by omega)]
    have hs8 : sm (tv μ t 4) (tv μ t 0 0) ≤ 792 := by
      have b := ok.1
      have q := (sm_bd (f := tv μ t 4) (n := tv μ t 0 0) (c := 0) (d := 99) (fun i i0 i1 => (ok.2.2.2.1 i i0 (by omega)).1) (by omega)).2
      omega
    refine vc_X10_run_36 hr.1.1 ⟨⟨h1, rfl, t4.1, by omega, by rw [e4]; exact q4.1, by omega, by omega⟩, fun m q => vc_X10_run_51 ?_⟩
    unfold Q_X9_seek at q
    rw [e4, h43, hall] at q
    obtain ⟨q7, q8, q9, q10, q6, qk, qf⟩ := q
    rw [q8]
    refine hR m _ ?_
    unfold Q_X10_run runS rnV liV
    rw [st_3, if_pos ⟨⟨hn.1, hn.2.1⟩, by omega, c2⟩]
    have ask := ask_looks q4.2
    have w4 := fun y (hy : CI y μ) => ask.1 y hy
    have cb := cntV_bd (tv μ t)
    have sb := seek_bd ok (lies := liesV (tv μ t) (sm (tv μ t 4) (tv μ t 0 0)) k) (x := drawV k) (min a (cntV (tv μ t))) (by omega) (by omega)
    have lb : 0 ≤ liesV (tv μ t) (sm (tv μ t 4) (tv μ t 0 0)) k ∧ liesV (tv μ t) (sm (tv μ t 4) (tv μ t 0 0)) k ≤ 8 := byNumV_bd ok
    have e1 : m4 1 = μ 1 := hf4 1 (by omega)
    refine ⟨fun y hy1 hy => ?_, ?_, ?_, fun z hz => by rw [qf z (by omega), q4.2 z (by omega)]⟩
    · have g := w4 y hy
      obtain ⟨Mk, _, _, hw, _⟩ := id hy
      have w6 := hw.2.2.2.1
      have w2 := hw.2.1
      have w5 := hw.2.2.2.2.1
      refine CI_nums (CI_le g (by omega) (by omega)) (fun z hz _ => qf z hz) (by rw [qk 2 (by omega), e1]; exact w2) (by rw [qk 5 (by omega)]) (by rw [q6, e1]; omega) (fun f f0 f1 => ?_)
      rcases (by omega : f < 6 ∨ f = 6 ∨ f = 7 ∨ f = 8 ∨ f = 9 ∨ f = 10) with e | e | e | e | e | e
      · rw [qk f (by omega), e1]; exact w5 f f0 f1
      · rw [e, q6, e1]; exact rr (by omega)
      · rw [e, q7]; exact rr (by omega)
      · rw [e, q8]; unfold runV; exact rr (by omega)
      · rw [e, q9]; unfold runV; exact rr (by omega)
      · rw [e, q10]; unfold runV; exact rr (by omega)
    · rw [stC_nums (w4 c hc) (fun z hz _ => qf z hz) (qk 5 (by omega)), st_t ⟨hn.1, hn.2.1⟩ ht]
      have es : stC m4 = stC μ := stC_frame hc fun z z0 z1 => hf4 z (by omega)
      rw [es]
      refine Prod.ext (Prod.ext ?_ (Prod.ext ?_ rfl)) rfl
      · show clip (m 1 2) (fun j => m4 2 j % 256) = clip (μ 1 2) (fun j => μ 2 j % 256)
        rw [qk 2 (by omega), e1, hf4 2 (by omega)]
      · funext f
        show clip 9 (fun f => m 1 (f + 2)) f = upd1 (upd1 (upd1 (upd1 (upd1 (stC μ).1.2.1 4 ((stC μ).1.2.1 4 + 1)) 5 _) 6 _) 7 _) 8 _ f
        have cl : ∀ y : Int, 0 ≤ y → y < 9 → clip 9 (fun f => m 1 (f + 2)) y = m 1 (y + 2) := fun y y0 y1 => clip_in (n := 9) (j := y) (f := fun f => m 1 (f + 2)) y0 y1
        by_cases e8 : f = 8
        · rw [e8, r1_eq, cl 8 (by omega) (by omega), show (8 : Int) + 2 = 10 from rfl, q10]
        rw [r1_ne e8]
        by_cases e7 : f = 7
        · rw [e7, r1_eq, cl 7 (by omega) (by omega), show (7 : Int) + 2 = 9 from rfl, q9]
        rw [r1_ne e7]
        by_cases e6 : f = 6
        · rw [e6, r1_eq, cl 6 (by omega) (by omega), show (6 : Int) + 2 = 8 from rfl, q8]
        rw [r1_ne e6]
        by_cases e5 : f = 5
        · rw [e5, r1_eq, cl 5 (by omega) (by omega), show (5 : Int) + 2 = 7 from rfl, q7]
        rw [r1_ne e5]
        by_cases e4 : f = 4
        · rw [e4, r1_eq, cl 4 (by omega) (by omega), st_n (by omega)]
          show m 1 6 = μ 1 6 + 1
          rw [q6, e1]
        rw [r1_ne e4]
        show (if 0 ≤ f ∧ f < 9 then m 1 (f + 2) else 0) = if 0 ≤ f ∧ f < 9 then μ 1 (f + 2) else 0
        by_cases c : 0 ≤ f ∧ f < 9
        · rw [if_pos c, if_pos c, qk (f + 2) (by omega), e1]
        · rw [if_neg c, if_neg c]
    · rw [st_t ⟨hn.1, hn.2.1⟩ ht]
theorem ct_X10_run : Ct mX10_run 3 70 0 0 (nrmS S_X10_run) := by
  refine ct_vm (own := RX10) (by decide +kernel) rfl ?_ ?_
  · intro as μ Q hS
    unfold S_X10_run at hS
    split at hS
    · exact Nat.le_of_ble_eq_true rfl
    · exact hS.elim
  · intro as μ R hS
    unfold S_X10_run at hS
    split at hS
    · exact body_X10_run hS.1 hS.2
    · exact hS.elim
def imageS (s : STt) (k : Int) : STt × Int := if 0 ≤ k ∧ k < 3 then ((s.1, upd1 s.2.1 k 1, fun j => if j = k then s.1 else s.2.2 j), 1) else (s, 0)
def P_X10_image (o k : Int) (μ : Mem) : Prop := o = 0 ∧ (∃ c, CI c μ) ∧ r32 k
def Q_X10_image (_ k : Int) (μ μ' : Mem) (r : Int) : Prop := Chg (imageS (stC μ) k) μ μ' r
def S_X10_image : S0t := fun as μ Q => match as with
  | [(2, x0), (0, x1)] => P_X10_image x0 x1 μ ∧ ∀ (μ' : Mem) (r : Int), Q_X10_image x0 x1 μ μ' r → Q μ' (some (kI r))
  | _ => False
theorem mono_X10_image : Mono S_X10_image := by
  intro as μ Q Q' h hS
  unfold S_X10_image at hS ⊢
  split at hS
  · exact ⟨hS.1, fun μ' r q => h _ _ (hS.2 _ _ q)⟩
  · exact hS.elim
def iX10_image : Inf := (kX10_image, fTX10, pTX10, cTX10, lTX10, sTX10, [(381, 0, 1, 9, S_X9_copyFrom)])
theorem ok_X10_image : infOK iX10_image mX10_image RX10 3 105 := ⟨kkX10_image, fTX10_ok, pTX10_ok _, cTX10_ok, lTX10_ok, sTX10_ok, c_cons ⟨mX9_copyFrom, 2, 81, ct_X9_copyFrom, mmX9_copyFrom, vvX9_copyFrom, lkX10_381, ⟨by decide, by decide⟩, ⟨_, _, rfl⟩, by decide, mono_X9_copyFrom⟩ (c_nil)⟩
theorem mt_X10_image : mtOK [] RX10 3 105 := mt_nil
abbrev V_X10_image (R : Mem → Option AV → Prop) (pc : Nat) (lc : List (Nat × AV)) (μ : Mem) : Prop := VM mX10_image RX10 3 105 R pc lc [] μ
set_option maxRecDepth 20000 in
theorem vc_X10_image_0 {R : Mem → Option AV → Prop} {k : Int} {μ : Mem} (H : r32 k ∧ ((k < 0) → R μ (some (kI 0))) ∧ (¬ (k < 0) → r32 k ∧ ((k < (3 : Int)) → (0 ≤ k ∧ k < 3) ∧ P_X9_copyFrom (34 + 1 + 33 * k) 1 μ ∧ (∀ (μ2 : Mem), Q_X9_copyFrom (34 + 1 + 33 * k) 1 μ μ2 → V_X10_image R 32 [(0, kR 0), (1, kI k)] μ2)) ∧ (¬ (k < (3 : Int)) → R μ (some (kI 0))))) : V_X10_image R 0 [(0, kR 0), (1, kI k)] μ := by
  refine vm_step2 mt_X10_image ok_X10_image [(32, [0, 1]), (39, [])] 1000 ?_
  show r32 k ∧ ((k < 0) → (0 ≤ (0 : Int) ∧ (0 : Int) ≤ 1) ∧ R μ (some (kI 0))) ∧ (¬ (k < 0) → (r32 k ∧ r32 (3 : Int)) ∧ ((k < (3 : Int)) → isC 0 10 ∧ (_ ∨ (inA 34 5 k ∧ (¬ (34 + 1 + 33 * k) < 0 → isC 0 10 ∧ isC (34 + 1 + 33 * k) 9 ∧ P_X9_copyFrom (34 + 1 + 33 * k) 1 μ ∧ (∀ (μ2 : Mem), Q_X9_copyFrom (34 + 1 + 33 * k) 1 μ μ2 → V_X10_image R 32 [(0, kR 0), (1, kI k)] μ2)) ∧ _))) ∧ (¬ (k < (3 : Int)) → (0 ≤ (0 : Int) ∧ (0 : Int) ≤ 1) ∧ R μ (some (kI 0))))
  exact ⟨H.1, fun hc6 => ⟨⟨by omega, by omega⟩, (H.2.1 hc6)⟩, fun hc6 => ⟨⟨(H.2.2 hc6).1, by unfold r32; omega⟩, fun hc5 => ⟨c_0, Or.inr ⟨isArr.in a_34 ((H.2.2 hc6).2.1 hc5).1.1 ((H.2.2 hc6).2.1 hc5).1.2, have hj1 := I_world a_34 ((H.2.2 hc6).2.1 hc5).1.1 ((H.2.2 hc6).2.1 hc5).1.2; ⟨fun _ => ⟨c_0, ⟨isW_C hj1, ((H.2.2 hc6).2.1 hc5).2.1, fun μ2 hq4 => (((H.2.2 hc6).2.1 hc5).2.2 μ2 hq4)⟩⟩, fun q => absurd q (Int.not_lt.mpr (isW_C hj1).1.1)⟩⟩⟩, fun hc5 => ⟨⟨by omega, by omega⟩, ((H.2.2 hc6).2.2 hc5)⟩⟩⟩
set_option maxRecDepth 20000 in
theorem vc_X10_image_32 {R : Mem → Option AV → Prop} {k : Int} {μ : Mem} (H : (0 ≤ k ∧ k < 3) ∧ V_X10_image R 39 [] (updm μ 134 k 1)) : V_X10_image R 32 [(0, kR 0), (1, kI k)] μ := by
  refine vm_step2 mt_X10_image ok_X10_image [(32, [0, 1]), (39, [])] 1000 ?_
  show isC 0 10 ∧ ((inA 134 2 k ∧ -128 ≤ (1 : Int) ∧ (1 : Int) ≤ 127) ∨ (inA 134 3 k ∧ 0 ≤ (1 : Int) ∧ (1 : Int) ≤ 1)) ∧ V_X10_image R 39 [] (updm μ 134 k 1)
  exact ⟨c_0, ⟨Or.inr ⟨isArr.in a_134 H.1.1 H.1.2, by omega, by omega⟩, H.2⟩⟩
set_option maxRecDepth 20000 in
theorem vc_X10_image_39 {R : Mem → Option AV → Prop} {μ : Mem} (H : R μ (some (kI 1))) : V_X10_image R 39 [] μ := by
  refine vm_step2 mt_X10_image ok_X10_image [(32, [0, 1]), (39, [])] 1000 ?_
  show (0 ≤ (1 : Int) ∧ (1 : Int) ≤ 1) ∧ R μ (some (kI 1))
  exact ⟨⟨by omega, by omega⟩, H⟩
theorem body_X10_image {o k : Int} {μ : Mem} {R : Mem → Option AV → Prop} (h : P_X10_image o k μ) (hR : ∀ (μ' : Mem) (r : Int), Q_X10_image o k μ μ' r → R μ' (some (kI r))) : V_X10_image R 0 [(0, kR o), (1, kI k)] μ := by
  obtain ⟨rfl, ⟨c, hc⟩, r_k⟩ := h
  have no : ¬ (0 ≤ k ∧ k < 3) → Q_X10_image 0 k μ μ 0 := fun q => by
    unfold Q_X10_image imageS
    rw [if_neg q]
    exact ⟨fun _ h => h, rfl, rfl, fun _ _ => rfl⟩
  have hby : BY μ 2 := by
    obtain ⟨Mk, _, _, _, hb, _⟩ := hc
    exact hb
  have h1 : isW 1 := by unfold isW; decide
  refine vc_X10_image_0 ⟨r_k, fun c1 => hR μ _ (no (by omega)), fun c1 => ⟨r_k, fun c2 => ⟨⟨by omega, c2⟩, ⟨I_world a_34 (by omega) c2, h1, by omega, hby⟩, fun m2 q2 => vc_X10_image_32 ⟨⟨by omega, c2⟩, vc_X10_image_39 ?_⟩⟩, fun c2 => hR μ _ (no (by omega))⟩⟩
  have ew : (34 : Int) + 1 + 33 * k = 35 + 33 * k := by omega
  have iw : isW (35 + 33 * k) := by have := I_world a_34 (j := k) (by omega) c2; rwa [ew] at this
  rw [ew] at q2
  obtain ⟨cp, sf⟩ := q2
  obtain ⟨m, em⟩ : ∃ m, m = updm m2 134 k 1 := ⟨_, rfl⟩
  rw [← em]
  have fm : ∀ z : Int, z ≠ 134 → m z = m2 z := fun z hz => by rw [em, ru_ne hz]
  have f134 : m 134 = upd1 (μ 134) k 1 := by rw [em, ru_eq, sf 134 (by omega)]
  have fo : ∀ z : Int, z ≠ 134 → z < 35 + 33 * k ∨ 35 + 33 * k + 32 < z → m z = μ z := fun z hz hw => by rw [fm z hz]; exact sf z hw
  have cpm : WCopy μ m (35 + 33 * k) 1 := by
    refine ⟨fun j j0 j1 => by rw [fm _ (by omega)]; exact cp.1 j j0 j1, fun j j0 j1 => by rw [fm _ (by omega)]; exact cp.2.1 j j0 j1, fun i i0 i1 => ?_⟩
    exact (cp.2.2 i i0 i1).of (fun z z0 z1 => rfl) (fun z z0 z1 => fm z (by omega))
  refine hR m 1 ?_
  unfold Q_X10_image imageS
  rw [if_pos ⟨by omega, c2⟩]
  refine ⟨fun y hy => ?_, ?_, rfl, fun z hz => fo z (by omega) (by omega)⟩
  · obtain ⟨Mk, hcc, hm, hw, hb, hi, g1, g2, n1, o1⟩ := hy
    have e0 : m 0 = μ 0 := fo 0 (by omega) (by omega)
    refine ⟨Mk, hcc, by rw [e0]; exact hm, WI_frame hw (fun z z0 z1 => fo z (by omega) (by omega)) (by rw [e0]), by unfold BY; rw [fo 2 (by omega) (by omega)]; exact hb, fun j j0 j1 => ?_, GInv_frame g1 (fun z z0 z1 => fo z (by omega) (by omega)), GInv_frame g2 (fun z z0 z1 => fo z (by omega) (by omega)), NC_frame n1 e0 (fo 186 (by omega) (by omega)) (fo 192 (by omega) (by omega)), OC_frame o1 e0 (fo 178 (by omega) (by omega))⟩
    rw [f134]
    by_cases e : j = k
    · subst e
      rw [r1_eq]
      refine ⟨Or.inr rfl, fun i i0 i1 => ?_, fun _ => WI_copy hw iw cpm (by rw [e0])⟩
      have e2 : 36 + 33 * j = 35 + 33 * j + 1 := by omega
      rw [e2, cpm.2.1 i i0 i1]
      exact hb i i0 i1
    · have q := hi j j0 j1
      rw [r1_ne e]
      exact ⟨q.1, by unfold BY; rw [fo (36 + 33 * j) (by omega) (by omega)]; exact q.2.1, fun e => WI_frame (q.2.2 e) (fun z z0 z1 => fo z (by omega) (by omega)) (by rw [e0])⟩
  · obtain ⟨Mk, hcc, hm, hw, hb, hi, g1, g2, n1, o1⟩ := hc
    have w1 : wvC m 1 = wvC μ 1 := wvC_frame hw fun z z0 z1 => fo z (by omega) (by omega)
    unfold stC
    rw [w1]
    refine Prod.ext rfl (Prod.ext ?_ ?_)
    · show clip 3 (m 134) = upd1 (clip 3 (μ 134)) k 1
      rw [f134]
      funext j
      by_cases e : j = k
      · rw [e, r1_eq, clip_in (by omega) (by omega), r1_eq]
      · rw [r1_ne e]
        unfold clip
        rw [r1_ne e]
    · funext j
      show (if 0 ≤ j ∧ j < 3 ∧ m 134 j = 1 then wvC m (35 + 33 * j) else wv0) = if j = k then wvC μ 1 else if 0 ≤ j ∧ j < 3 ∧ μ 134 j = 1 then wvC μ (35 + 33 * j) else wv0
      rw [f134]
      by_cases e : j = k
      · subst e
        rw [if_pos ⟨by omega, by omega, r1_eq⟩, if_pos rfl]
        exact wvC_copy hw cpm
      · rw [r1_ne e, if_neg e]
        by_cases q : 0 ≤ j ∧ j < 3 ∧ μ 134 j = 1
        · rw [if_pos q, if_pos q, wvC_frame ((hi j q.1 q.2.1).2.2 q.2.2) (fun z z0 z1 => fo z (by omega) (by omega))]
        · rw [if_neg q, if_neg q]
theorem ct_X10_image : Ct mX10_image 3 105 0 0 (nrmS S_X10_image) := by
  refine ct_vm (own := RX10) (by decide +kernel) rfl ?_ ?_
  · intro as μ Q hS
    unfold S_X10_image at hS
    split at hS
    · exact Nat.le_of_ble_eq_true rfl
    · exact hS.elim
  · intro as μ R hS
    unfold S_X10_image at hS
    split at hS
    · exact body_X10_image hS.1 hS.2
    · exact hS.elim
def againS (s : STt) (k : Int) : STt × Int := if (0 ≤ k ∧ k < 3) ∧ s.2.1 k = 1 then ((s.2.2 k, s.2), 1) else (s, 0)
def P_X10_again (o k : Int) (μ : Mem) : Prop := o = 0 ∧ (∃ c, CI c μ) ∧ r32 k
def Q_X10_again (_ k : Int) (μ μ' : Mem) (r : Int) : Prop := Chg (againS (stC μ) k) μ μ' r
def S_X10_again : S0t := fun as μ Q => match as with
  | [(2, x0), (0, x1)] => P_X10_again x0 x1 μ ∧ ∀ (μ' : Mem) (r : Int), Q_X10_again x0 x1 μ μ' r → Q μ' (some (kI r))
  | _ => False
theorem mono_X10_again : Mono S_X10_again := by
  intro as μ Q Q' h hS
  unfold S_X10_again at hS ⊢
  split at hS
  · exact ⟨hS.1, fun μ' r q => h _ _ (hS.2 _ _ q)⟩
  · exact hS.elim
def iX10_again : Inf := (kX10_again, fTX10, pTX10, cTX10, lTX10, sTX10, [(381, 0, 1, 9, S_X9_copyFrom)])
theorem ok_X10_again : infOK iX10_again mX10_again RX10 3 105 := ⟨kkX10_again, fTX10_ok, pTX10_ok _, cTX10_ok, lTX10_ok, sTX10_ok, c_cons ⟨mX9_copyFrom, 2, 81, ct_X9_copyFrom, mmX9_copyFrom, vvX9_copyFrom, lkX10_381, ⟨by decide, by decide⟩, ⟨_, _, rfl⟩, by decide, mono_X9_copyFrom⟩ (c_nil)⟩
theorem mt_X10_again : mtOK [] RX10 3 105 := mt_nil
abbrev V_X10_again (R : Mem → Option AV → Prop) (pc : Nat) (lc : List (Nat × AV)) (μ : Mem) : Prop := VM mX10_again RX10 3 105 R pc lc [] μ
set_option maxRecDepth 20000 in
theorem vc_X10_again_0 {R : Mem → Option AV → Prop} {k : Int} {μ : Mem} (H : r32 k ∧ ((k < 0) → R μ (some (kI 0))) ∧ (¬ (k < 0) → r32 k ∧ (((3 : Int) ≤ k) → R μ (some (kI 0))) ∧ (¬ ((3 : Int) ≤ k) → (0 ≤ k ∧ k < 3) ∧ r32 (μ 134 k) ∧ (((μ 134 k) = 0) → R μ (some (kI 0))) ∧ (¬ ((μ 134 k) = 0) → (0 ≤ k ∧ k < 3) ∧ P_X9_copyFrom 1 (34 + 1 + 33 * k) μ ∧ (∀ (μ2 : Mem), Q_X9_copyFrom 1 (34 + 1 + 33 * k) μ μ2 → V_X10_again R 43 [] μ2))))) : V_X10_again R 0 [(0, kR 0), (1, kI k)] μ := by
  refine vm_step2 mt_X10_again ok_X10_again [(43, [])] 1000 ?_
  show r32 k ∧ ((k < 0) → _ ∧ ((-1 : Int) < 0 → (0 ≤ (0 : Int) ∧ (0 : Int) ≤ 1) ∧ R μ (some (kI 0)))) ∧ (¬ (k < 0) → (r32 k ∧ r32 (3 : Int)) ∧ (((3 : Int) ≤ k) → _ ∧ ((-1 : Int) < 0 → (0 ≤ (0 : Int) ∧ (0 : Int) ≤ 1) ∧ R μ (some (kI 0)))) ∧ (¬ ((3 : Int) ≤ k) → isC 0 10 ∧ (inA 134 2 k ∨ inA 134 3 k) ∧ r32 (μ 134 k) ∧ (((μ 134 k) = 0) → _ ∧ ((-1 : Int) < 0 → (0 ≤ (0 : Int) ∧ (0 : Int) ≤ 1) ∧ R μ (some (kI 0)))) ∧ (¬ ((μ 134 k) = 0) → isC 0 10 ∧ (_ ∨ (inA 34 5 k ∧ (¬ (34 + 1 + 33 * k) < 0 → isC 0 10 ∧ isC 1 9 ∧ P_X9_copyFrom 1 (34 + 1 + 33 * k) μ ∧ (∀ (μ2 : Mem), Q_X9_copyFrom 1 (34 + 1 + 33 * k) μ μ2 → V_X10_again R 43 [] μ2)) ∧ _)))))
  exact ⟨H.1, fun hc7 => ⟨fun q => absurd (show (-1 : Int) < 0 by decide) q, fun _ => ⟨⟨by omega, by omega⟩, (H.2.1 hc7)⟩⟩, fun hc7 => ⟨⟨(H.2.2 hc7).1, by unfold r32; omega⟩, fun hc6 => ⟨fun q => absurd (show (-1 : Int) < 0 by decide) q, fun _ => ⟨⟨by omega, by omega⟩, ((H.2.2 hc7).2.1 hc6)⟩⟩, fun hc6 => ⟨c_0, ⟨Or.inr (isArr.in a_134 ((H.2.2 hc7).2.2 hc6).1.1 ((H.2.2 hc7).2.2 hc6).1.2), ⟨((H.2.2 hc7).2.2 hc6).2.1, fun hc5 => ⟨fun q => absurd (show (-1 : Int) < 0 by decide) q, fun _ => ⟨⟨by omega, by omega⟩, (((H.2.2 hc7).2.2 hc6).2.2.1 hc5)⟩⟩, fun hc5 => ⟨c_0, Or.inr ⟨isArr.in a_34 (((H.2.2 hc7).2.2 hc6).2.2.2 hc5).1.1 (((H.2.2 hc7).2.2 hc6).2.2.2 hc5).1.2, have hj1 := I_world a_34 (((H.2.2 hc7).2.2 hc6).2.2.2 hc5).1.1 (((H.2.2 hc7).2.2 hc6).2.2.2 hc5).1.2; ⟨fun _ => ⟨c_0, ⟨c_1, (((H.2.2 hc7).2.2 hc6).2.2.2 hc5).2.1, fun μ2 hq4 => ((((H.2.2 hc7).2.2 hc6).2.2.2 hc5).2.2 μ2 hq4)⟩⟩, fun q => absurd q (Int.not_lt.mpr (isW_C hj1).1.1)⟩⟩⟩⟩⟩⟩⟩⟩
set_option maxRecDepth 20000 in
theorem vc_X10_again_43 {R : Mem → Option AV → Prop} {μ : Mem} (H : R μ (some (kI 1))) : V_X10_again R 43 [] μ := by
  refine vm_step2 mt_X10_again ok_X10_again [(43, [])] 1000 ?_
  show (0 ≤ (1 : Int) ∧ (1 : Int) ≤ 1) ∧ R μ (some (kI 1))
  exact ⟨⟨by omega, by omega⟩, H⟩
theorem st_k {μ : Mem} {k : Int} (h : 0 ≤ k ∧ k < 3) : (stC μ).2.1 k = μ 134 k := clip_in (n := 3) (j := k) (f := μ 134) h.1 h.2
theorem body_X10_again {o k : Int} {μ : Mem} {R : Mem → Option AV → Prop} (h : P_X10_again o k μ) (hR : ∀ (μ' : Mem) (r : Int), Q_X10_again o k μ μ' r → R μ' (some (kI r))) : V_X10_again R 0 [(0, kR o), (1, kI k)] μ := by
  obtain ⟨rfl, ⟨c, hc⟩, r_k⟩ := h
  have no : ¬ ((0 ≤ k ∧ k < 3) ∧ μ 134 k = 1) → Q_X10_again 0 k μ μ 0 := fun q => by
    unfold Q_X10_again againS
    by_cases c : 0 ≤ k ∧ k < 3
    · rw [if_neg (fun e => q ⟨c, by have := e.2; rwa [st_k c] at this⟩)]
      exact ⟨fun _ h => h, rfl, rfl, fun _ _ => rfl⟩
    · rw [if_neg (fun e => c e.1)]
      exact ⟨fun _ h => h, rfl, rfl, fun _ _ => rfl⟩
  have h1 : isW 1 := by unfold isW; decide
  have hi := fun (k0 : 0 ≤ k) (k1 : k < 3) => show (μ 134 k = 0 ∨ μ 134 k = 1) ∧ BY μ (36 + 33 * k) from by
    obtain ⟨Mk, _, _, _, _, hi, _⟩ := hc
    exact ⟨(hi k k0 k1).1, (hi k k0 k1).2.1⟩
  refine vc_X10_again_0 ⟨r_k, fun c1 => hR μ _ (no (by omega)), fun c1 => ⟨r_k, fun c2 => hR μ _ (no (by omega)), fun c2 => ?_⟩⟩
  have q := hi (by omega) (by omega)
  have ew : (34 : Int) + 1 + 33 * k = 35 + 33 * k := by omega
  have iw : isW (35 + 33 * k) := by have := I_world a_34 (j := k) (by omega) (by omega); rwa [ew] at this
  refine ⟨⟨by omega, by omega⟩, rr (by omega), fun c3 => hR μ _ (no (by omega)), fun c3 => ⟨⟨by omega, by omega⟩, ⟨h1, by rw [ew]; exact iw, by omega, ?_⟩, fun m q2 => vc_X10_again_43 ?_⟩⟩
  · have e2 : (34 : Int) + 1 + 33 * k + 1 = 36 + 33 * k := by omega
    rw [e2]; exact q.2
  rw [ew] at q2
  obtain ⟨cp, sf⟩ := q2
  have hk1 : μ 134 k = 1 := by omega
  refine hR m 1 ?_
  unfold Q_X10_again againS
  have kk : 0 ≤ k ∧ k < 3 := by omega
  rw [st_k kk, if_pos ⟨kk, hk1⟩]
  refine ⟨fun y hy => ?_, ?_, rfl, fun z hz => sf z (by omega)⟩
  · obtain ⟨Mk, hcc, hm, hw, hb, hi, g1, g2, n1, o1⟩ := hy
    have e0 : m 0 = μ 0 := sf 0 (by omega)
    have qi := hi k kk.1 kk.2
    refine ⟨Mk, hcc, by rw [e0]; exact hm, WI_copy (qi.2.2 hk1) h1 cp (by rw [e0]), fun j j0 j1 => ?_, fun j j0 j1 => ?_, GInv_frame g1 (fun z z0 z1 => sf z (by omega)), GInv_frame g2 (fun z z0 z1 => sf z (by omega)), NC_frame n1 e0 (sf 186 (by omega)) (sf 192 (by omega)), OC_frame o1 e0 (sf 178 (by omega))⟩
    · have := cp.2.1 j j0 j1
      have e2 : (35 : Int) + 33 * k + 1 = 36 + 33 * k := by omega
      rw [e2] at this
      show -128 ≤ m 2 j ∧ m 2 j ≤ 127
      rw [show m 2 j = μ (36 + 33 * k) j from this]
      exact qi.2.1 j j0 j1
    · have q := hi j j0 j1
      rw [sf 134 (by omega)]
      exact ⟨q.1, by unfold BY; rw [sf (36 + 33 * j) (by omega)]; exact q.2.1, fun e => WI_frame (q.2.2 e) (fun z z0 z1 => sf z (by omega)) (by rw [e0])⟩
  · obtain ⟨Mk, hcc, hm, hw, hb, hi, g1, g2, n1, o1⟩ := hc
    unfold stC
    rw [wvC_copy ((hi k kk.1 kk.2).2.2 hk1) cp]
    refine Prod.ext ?_ (Prod.ext ?_ ?_)
    · show wvC μ (35 + 33 * k) = if 0 ≤ k ∧ k < 3 ∧ μ 134 k = 1 then wvC μ (35 + 33 * k) else wv0
      rw [if_pos ⟨kk.1, kk.2, hk1⟩]
    · show clip 3 (m 134) = clip 3 (μ 134)
      rw [sf 134 (by omega)]
    · funext j
      show (if 0 ≤ j ∧ j < 3 ∧ m 134 j = 1 then wvC m (35 + 33 * j) else wv0) = if 0 ≤ j ∧ j < 3 ∧ μ 134 j = 1 then wvC μ (35 + 33 * j) else wv0
      rw [sf 134 (by omega)]
      by_cases q : 0 ≤ j ∧ j < 3 ∧ μ 134 j = 1
      · rw [if_pos q, if_pos q, wvC_frame ((hi j q.1 q.2.1).2.2 q.2.2) (fun z z0 z1 => sf z (by omega))]
      · rw [if_neg q, if_neg q]
theorem ct_X10_again : Ct mX10_again 3 105 0 0 (nrmS S_X10_again) := by
  refine ct_vm (own := RX10) (by decide +kernel) rfl ?_ ?_
  · intro as μ Q hS
    unfold S_X10_again at hS
    split at hS
    · exact Nat.le_of_ble_eq_true rfl
    · exact hS.elim
  · intro as μ R hS
    unfold S_X10_again at hS
    split at hS
    · exact body_X10_again hS.1 hS.2
    · exact hS.elim
