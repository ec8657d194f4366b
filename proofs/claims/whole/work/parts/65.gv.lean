/-! a game's numbers: how many, above, below, cellars, rows, cellars' chances, rows' chances -/
abbrev GV : Type := Int × Int × Int × (Int → Int) × (Int → Int) × (Int → Int) × (Int → Int)
theorem Bef_congr {F F' : Int → Int → Int} {n N k cc rc : Int} (n4 : n ≤ 4) (hF : ∀ c r : Int, 0 ≤ c → c < n → 0 ≤ r → r < N → F' c r = F c r) (h : Bef F n N k cc rc) : Bef F' n N k cc rc := by
  intro k' cp' rp' a1 a2 a3 a4 a5 hg
  refine h k' cp' rp' a1 a2 a3 a4 a5 (Good_congr hg a1 (by omega) (fun i i0 i1 => ?_) (fun i i0 i1 => ?_) (fun _ _ _ => rfl) (fun _ _ _ => rfl) (fun c r c0 c1 r0 r1 => (hF c r c0 c1 r0 r1).symm)).1
  · have := Pk_at a3 (by omega) i0 i1; omega
  · have := Pk_at a4 (by omega) i0 i1; omega
theorem FirstK_congr {F F' : Int → Int → Int} {n N k : Int} {cp rp : Int → Int} (n4 : n ≤ 4) (hF : ∀ c r : Int, 0 ≤ c → c < n → 0 ≤ r → r < N → F' c r = F c r) (h : FirstK F n N k cp rp) : FirstK F' n N k cp rp ∧ kerS F' k cp rp = kerS F k cp rp ∧ kerD F' k cp rp = kerD F k cp rp ∧ ∀ i, 0 ≤ i → i < k → kerR F' k cp rp i = kerR F k cp rp i ∧ kerC F' k cp rp i = kerC F k cp rp i := by
  obtain ⟨hk, hc, hr, hg, hb⟩ := h
  have q := Good_congr (F' := F') hg hk.1 (by omega) (fun i i0 i1 => by have := Pk_at hc (by omega) i0 i1; omega) (fun i i0 i1 => by have := Pk_at hr (by omega) i0 i1; omega) (fun _ _ _ => rfl) (fun _ _ _ => rfl) hF
  exact ⟨⟨hk, hc, hr, q.1, Bef_congr n4 hF hb⟩, q.2⟩
def GVP (W : Int → Int → Int) (s : Int) (x : GV) : Prop := ∃ (F : Int → Int → Int) (cp rp : Int → Int), FoundA F W (mthV s) (popc s) ∧ FirstK F (popc s) (SV 0 (popc s)) x.1 cp rp ∧
  x = (x.1, sgn (kerS F x.1 cp rp) * kerD F x.1 cp rp, sgn (kerS F x.1 cp rp) * kerS F x.1 cp rp, clip x.1 cp, clip x.1 rp, clip x.1 (fun i => sgn (kerS F x.1 cp rp) * kerC F x.1 cp rp i), clip x.1 (fun i => sgn (kerS F x.1 cp rp) * kerR F x.1 cp rp i))
theorem clip_congr {n : Int} {f g : Int → Int} (h : ∀ i, 0 ≤ i → i < n → f i = g i) : clip n f = clip n g := by
  funext j
  unfold clip
  by_cases c : 0 ≤ j ∧ j < n
  · rw [if_pos c, if_pos c]; exact h j c.1 c.2
  · rw [if_neg c, if_neg c]
/-- where the ways between those that are met are the same -/
def sameW (W W' : Int → Int → Int) (s : Int) : Prop := ∀ a b : Int, 0 ≤ a → a < 8 → (a = 0 ∨ hasB s a = true) → 0 ≤ b → b < 8 → hasB s b = true → W a b = W' a b
theorem timG_W {W W' : Int → Int → Int} {s r k : Int} (h : sameW W W' s) (n4 : popc s ≤ 4) (r0 : 0 ≤ r) (r1 : r < SV 0 (popc s)) (kn : k ≤ popc s) : timG W (mthV s) (popc s) r k = timG W' (mthV s) (popc s) r k := by
  refine sm_congr fun j j0 j1 => ?_
  have p1 := pr_at (show 0 ≤ popc s by omega) n4 r0 r1 j0 (show j < popc s by omega)
  have c1 := mth_in (s := s) p1.1.1.1 p1.1.1.2
  unfold prevG
  by_cases c : j = 0
  · rw [if_pos c]; exact h 0 _ (Int.le_refl _) (by omega) (Or.inl rfl) c1.1.1 c1.1.2 c1.2
  · have p2 := pr_at (show 0 ≤ popc s by omega) n4 r0 r1 (show 0 ≤ j - 1 by omega) (show j - 1 < popc s by omega)
    have c2 := mth_in (s := s) p2.1.1.1 p2.1.1.2
    rw [if_neg c]; exact h _ _ c2.1.1 c2.1.2 (Or.inr c2.2) c1.1.1 c1.1.2 c1.2
theorem FoundA_W {F W W' : Int → Int → Int} {s : Int} (h : sameW W W' s) (n4 : popc s ≤ 4) (hf : FoundA F W (mthV s) (popc s)) : FoundA F W' (mthV s) (popc s) := fun r k r0 r1 k0 k1 => by
  rw [hf r k r0 r1 k0 k1]
  exact timG_W h n4 r0 r1 (by omega)
theorem FoundA_uniq {F F' W : Int → Int → Int} {cel : Int → Int} {n : Int} (n0 : 0 ≤ n) (n4 : n ≤ 4) (h : FoundA F W cel n) (h' : FoundA F' W cel n) : ∀ c r : Int, 0 ≤ c → c < n → 0 ≤ r → r < SV 0 n → F' c r = F c r := fun c r c0 c1 r0 r1 => by
  obtain ⟨k, hk, e⟩ := ord_sur n0 n4 r0 r1 c0 c1
  subst e
  rw [h r k r0 r1 hk.1 hk.2, h' r k r0 r1 hk.1 hk.2]
theorem GVP_uniq {W : Int → Int → Int} {s : Int} {x y : GV} (n4 : popc s ≤ 4) (hx : GVP W s x) (hy : GVP W s y) : x = y := by
  have hp := popc_bd (s := s)
  obtain ⟨F, cp, rp, hf, hk, e⟩ := hx
  obtain ⟨F', cp', rp', hf', hk', e'⟩ := hy
  have hF := FoundA_uniq (by omega) n4 hf hf'
  have h24 := sv0_bd hp.1 n4
  obtain ⟨q1, q2, q3, q4⟩ := FirstK_congr n4 hF hk
  obtain ⟨u1, u2, u3⟩ := first_uniq n4 h24.2.2 q1 hk'
  have g := Good_congr (F' := F') (cp' := cp') (rp' := rp') q1.2.2.2.1 q1.1.1 (by have := q1.1; omega) (fun i i0 i1 => by have := Pk_at q1.2.1 (by have := q1.1; omega) i0 i1; omega) (fun i i0 i1 => by have := Pk_at q1.2.2.1 (by have := q1.1; omega) i0 i1; omega) (fun i i0 i1 => (u2 i i0 i1).symm) (fun i i0 i1 => (u3 i i0 i1).symm) (fun _ _ _ _ _ _ => rfl)
  rw [e, e', ← u1, g.2.1, g.2.2.1, q2, q3]
  refine Prod.ext rfl (Prod.ext rfl (Prod.ext rfl (Prod.ext ?_ (Prod.ext ?_ (Prod.ext ?_ ?_)))))
  · exact clip_congr u2
  · exact clip_congr u3
  · exact clip_congr fun i i0 i1 => by
      show _ * kerC F x.1 cp rp i = _ * kerC F' x.1 cp' rp' i
      rw [(g.2.2.2 i i0 i1).2, (q4 i i0 i1).2]
  · exact clip_congr fun i i0 i1 => by
      show _ * kerR F x.1 cp rp i = _ * kerR F' x.1 cp' rp' i
      rw [(g.2.2.2 i i0 i1).1, (q4 i i0 i1).1]
noncomputable def gv (W : Int → Int → Int) (s : Int) : GV := Classical.epsilon (GVP W s)
theorem gv_eq {W : Int → Int → Int} {s : Int} {x : GV} (n4 : popc s ≤ 4) (h : GVP W s x) : gv W s = x := GVP_uniq n4 (Classical.epsilon_spec ⟨x, h⟩) h
theorem gv_congr {W W' : Int → Int → Int} {s : Int} (n4 : popc s ≤ 4) (h : sameW W W' s) : gv W s = gv W' s := by
  have e : GVP W s = GVP W' s := by
    funext x
    refine propext ⟨fun ⟨F, cp, rp, hf, q⟩ => ⟨F, cp, rp, FoundA_W h n4 hf, q⟩, fun ⟨F, cp, rp, hf, q⟩ => ⟨F, cp, rp, FoundA_W (fun a b a0 a1 ha b0 b1 hb => (h a b a0 a1 ha b0 b1 hb).symm) n4 hf, q⟩⟩
  unfold gv
  rw [e]
/-- ways that are ways -/
def GW (W : Int → Int → Int) (s : Int) : Prop := hasB s 0 = false ∧ ∀ a b : Int, 0 ≤ a → a < 8 → (a = 0 ∨ hasB s a = true) → 0 ≤ b → b < 8 → hasB s b = true → (0 ≤ W a b ∧ W a b ≤ 140) ∧ (a ≠ b → 1 ≤ W a b)
theorem timG_bd {W : Int → Int → Int} {s r k : Int} (h : GW W s) (n4 : popc s ≤ 4) (r0 : 0 ≤ r) (r1 : r < SV 0 (popc s)) (k0 : 0 ≤ k) (kn : k < popc s) : 1 ≤ timG W (mthV s) (popc s) r (k + 1) ∧ timG W (mthV s) (popc s) r (k + 1) ≤ 560 := by
  have bd : ∀ j, 0 ≤ j → j < k + 1 → (0 ≤ W (prevG (mthV s) (popc s) r j) (mthV s (ordV (popc s) r j)) ∧ W (prevG (mthV s) (popc s) r j) (mthV s (ordV (popc s) r j)) ≤ 140) ∧ (j = 0 → 1 ≤ W (prevG (mthV s) (popc s) r j) (mthV s (ordV (popc s) r j))) := fun j j0 j1 => by
    have p1 := pr_at (show 0 ≤ popc s by omega) n4 r0 r1 j0 (show j < popc s by omega)
    have c1 := mth_in (s := s) p1.1.1.1 p1.1.1.2
    unfold prevG
    by_cases c : j = 0
    · rw [if_pos c]
      have q := h.2 0 _ (Int.le_refl _) (by omega) (Or.inl rfl) c1.1.1 c1.1.2 c1.2
      refine ⟨q.1, fun _ => q.2 (fun e => ?_)⟩
      rw [← e, h.1] at c1
      exact absurd c1.2 (by decide)
    · have p2 := pr_at (show 0 ≤ popc s by omega) n4 r0 r1 (show 0 ≤ j - 1 by omega) (show j - 1 < popc s by omega)
      have c2 := mth_in (s := s) p2.1.1.1 p2.1.1.2
      rw [if_neg c]
      exact ⟨(h.2 _ _ c2.1.1 c2.1.2 (Or.inr c2.2) c1.1.1 c1.1.2 c1.2).1, fun e => absurd e c⟩
  have b := sm_bd (f := fun j => W (prevG (mthV s) (popc s) r j) (mthV s (ordV (popc s) r j))) (n := k + 1) (c := 0) (d := 140) (fun j j0 j1 => (bd j j0 j1).1) (by omega)
  have p := sm_pos (f := fun j => W (prevG (mthV s) (popc s) r j) (mthV s (ordV (popc s) r j))) (n := k + 1) (j := 0) (fun j j0 j1 => (bd j j0 j1).1.1) (Int.le_refl _) (by omega) (by
    have := (bd 0 (Int.le_refl _) (by omega)).2 rfl
    show 0 < W (prevG (mthV s) (popc s) r 0) (mthV s (ordV (popc s) r 0))
    omega)
  unfold timG
  omega
theorem FoundA_bd {F W : Int → Int → Int} {s : Int} (h : GW W s) (n4 : popc s ≤ 4) (hf : FoundA F W (mthV s) (popc s)) : ∀ c r : Int, 0 ≤ c → c < popc s → 0 ≤ r → r < SV 0 (popc s) → 1 ≤ F c r ∧ F c r ≤ 560 := fun c r c0 c1 r0 r1 => by
  obtain ⟨k, hk, e⟩ := ord_sur (show 0 ≤ popc s by omega) n4 r0 r1 c0 c1
  subst e
  rw [hf r k r0 r1 hk.1 hk.2]
  exact timG_bd h n4 r0 r1 hk.1 hk.2
theorem KerR_has {μ : Mem} {g : Int} {F W : Int → Int → Int} {s : Int} (hw : GW W s) (hn : 1 ≤ popc s ∧ popc s ≤ 4) (hk : KerR μ g F (popc s) (SV 0 (popc s))) (hf : FoundA F W (mthV s) (popc s)) : 0 < μ g 14 ∧ gv W s = (μ g 14, μ g 15, μ g 16, clip (μ g 14) (μ (g + 4)), clip (μ g 14) (μ (g + 5)), clip (μ g 14) (μ (g + 9)), clip (μ g 14) (μ (g + 10))) := by
  have h24 := sv0_bd (show 0 ≤ popc s by omega) hn.2
  have hb := FoundA_bd hw hn.2 hf
  rcases hk with ⟨_, hbef⟩ | ⟨hk1, h15, h16, hcr⟩
  · exfalso
    obtain ⟨k, cp, rp, a1, a2, a3, a4⟩ := ker_ex hn.1 hn.2 (show 1 ≤ SV 0 (popc s) by omega) h24.2.2 hb
    exact hbef k cp rp a1.1 a1.2 a2 a3 (Or.inl (by omega)) a4
  · refine ⟨by have := hk1.1; omega, gv_eq hn.2 ⟨F, μ (g + 4), μ (g + 5), hf, hk1, ?_⟩⟩
    refine Prod.ext rfl (Prod.ext h15 (Prod.ext h16 (Prod.ext rfl (Prod.ext rfl (Prod.ext ?_ ?_)))))
    · exact clip_congr fun i i0 i1 => (hcr i i0 i1).1
    · exact clip_congr fun i i0 i1 => (hcr i i0 i1).2
/-- the bounds of the numbers -/
theorem gv_bd {W : Int → Int → Int} {s : Int} (hw : GW W s) (hn : 1 ≤ popc s ∧ popc s ≤ 4) : GVP W s (gv W s) ∧ (1 ≤ (gv W s).1 ∧ (gv W s).1 ≤ 4) ∧ (0 ≤ (gv W s).2.1 ∧ (gv W s).2.1 ≤ 2360279040000) ∧ (1 ≤ (gv W s).2.2.1 ∧ (gv W s).2.2.1 ≤ 4214784000) := by
  have h24 := sv0_bd (show 0 ≤ popc s by omega) hn.2
  -- the matrix
  have hex : ∃ F, FoundA F W (mthV s) (popc s) := by
    refine ⟨fun c r => timG W (mthV s) (popc s) r (frst (fun k => decide (ordV (popc s) r k = c)) (popc s) + 1), fun r k r0 r1 k0 k1 => ?_⟩
    have e := frst_at (q := fun j => decide (ordV (popc s) r j = ordV (popc s) r k)) (n := popc s) (k := k) k0 k1 (decide_eq_true rfl) (fun i i0 i1 => decide_eq_false (fun q => by
      have := (pr_at (show 0 ≤ popc s by omega) hn.2 r0 r1 k0 k1).2 i i0 (by omega) q
      omega))
    show timG W (mthV s) (popc s) r (frst (fun j => decide (ordV (popc s) r j = ordV (popc s) r k)) (popc s) + 1) = _
    rw [e]
  obtain ⟨F, hf⟩ := hex
  have hb := FoundA_bd hw hn.2 hf
  -- the first
  have hfirst : ∃ k cp rp, FirstK F (popc s) (SV 0 (popc s)) k cp rp := by
    apply Classical.byContradiction
    intro hno
    have step : ∀ M : Nat, ∀ k cp rp, (1 ≤ k ∧ k ≤ popc s) → Pk k (popc s) cp → Pk k (SV 0 (popc s)) rp → Good F (popc s) (SV 0 (popc s)) k cp rp → k * 1000000000000 + cod k cp * 1000000 + cod k rp < M → False := by
      intro M
      induction M with
      | zero =>
        intro k cp rp hk hc hr _ hM
        have := cod_bd hc (by omega) (by omega) (by omega)
        have := cod_bd hr h24.2.2 (by omega) (by omega)
        omega
      | succ M ih =>
        intro k cp rp hk hc hr hg hM
        refine hno ⟨k, cp, rp, hk, hc, hr, hg, fun k' cp' rp' a1 a2 a3 a4 a5 hg' => ih k' cp' rp' ⟨a1, a2⟩ a3 a4 hg' ?_⟩
        have := cod_bd hc (by omega) (by omega) (by omega)
        have := cod_bd hr h24.2.2 (by omega) (by omega)
        have := cod_bd a3 (by omega) (by omega) (by omega)
        have := cod_bd a4 h24.2.2 (by omega) (by omega)
        rcases a5 with a5 | ⟨a5, a6⟩
        · omega
        · subst a5
          omega
    obtain ⟨k, cp, rp, a1, a2, a3, a4⟩ := ker_ex hn.1 hn.2 (show 1 ≤ SV 0 (popc s) by omega) h24.2.2 hb
    exact step (k * 1000000000000 + cod k cp * 1000000 + cod k rp + 1).toNat k cp rp a1 a2 a3 a4 (by
      have := cod_bd a2 (by omega) (by omega) (by omega)
      have := cod_bd a3 h24.2.2 (by omega) (by omega)
      omega)
  obtain ⟨k, cp, rp, hk⟩ := hfirst
  have hx : GVP W s (k, sgn (kerS F k cp rp) * kerD F k cp rp, sgn (kerS F k cp rp) * kerS F k cp rp, clip k cp, clip k rp, clip k (fun i => sgn (kerS F k cp rp) * kerC F k cp rp i), clip k (fun i => sgn (kerS F k cp rp) * kerR F k cp rp i)) := ⟨F, cp, rp, hf, hk, rfl⟩
  rw [gv_eq hn.2 hx]
  refine ⟨hx, by have := hk.1; show 1 ≤ k ∧ k ≤ 4; omega, ?_, ?_⟩
  · show 0 ≤ sgn (kerS F k cp rp) * kerD F k cp rp ∧ sgn (kerS F k cp rp) * kerD F k cp rp ≤ 2360279040000
    have hk1 := hk.1
    have hbb : ∀ a b : Int, 0 ≤ a → a < k → 0 ≤ b → b < k → 0 ≤ F (cp a) (rp b) ∧ F (cp a) (rp b) ≤ 560 := fun a b a0 a1 b0 b1 => by
      have h1 := Pk_at hk.2.1 (by omega) a0 a1
      have h2 := Pk_at hk.2.2.1 (by omega) b0 b1
      have := hb (cp a) (rp b) (by omega) (by omega) (by omega) (by omega)
      omega
    have e : sgn (kerS F k cp rp) * kerD F k cp rp = sm (fun j => sgn (kerS F k cp rp) * kerR F k cp rp j * F (cp 0) (rp j)) k := by
      unfold kerD
      rw [← sm_mulL (by omega)]
      exact sm_congr fun j _ _ => by rw [Int.mul_assoc]
    rw [e]
    refine worth_bd (f := fun j => sgn (kerS F k cp rp) * kerR F k cp rp j) (x := fun j => F (cp 0) (rp j)) (k := k) (B := 1053696000) (by omega) (by omega) (by omega) (fun i i0 i1 => ⟨hk.2.2.2.1.2.1 i i0 i1, ?_⟩) (fun i i0 i1 => hbb 0 i (Int.le_refl _) (by omega) i0 i1)
    have := kerR_bd (F := F) (cp := cp) (rp := rp) (j := i) hk1.1 (by omega) i0 hbb
    show sgn (kerS F k cp rp) * kerR F k cp rp i ≤ 1053696000
    unfold sgn
    split <;> omega
  · show 1 ≤ sgn (kerS F k cp rp) * kerS F k cp rp ∧ sgn (kerS F k cp rp) * kerS F k cp rp ≤ 4214784000
    have hk1 := hk.1
    have hbb : ∀ a b : Int, 0 ≤ a → a < k → 0 ≤ b → b < k → 0 ≤ F (cp a) (rp b) ∧ F (cp a) (rp b) ≤ 560 := fun a b a0 a1 b0 b1 => by
      have h1 := Pk_at hk.2.1 (by omega) a0 a1
      have h2 := Pk_at hk.2.2.1 (by omega) b0 b1
      have := hb (cp a) (rp b) (by omega) (by omega) (by omega) (by omega)
      omega
    have h0 := sgn_pos hk.2.2.2.1.1
    have h1 := sm_bd (f := kerR F k cp rp) (n := k) (c := -1053696000) (d := 1053696000) (fun i i0 i1 => kerR_bd hk1.1 (by omega) i0 hbb) (by omega)
    have h2 : k * 1053696000 ≤ 4 * 1053696000 := Int.mul_le_mul_of_nonneg_right (by omega) (by omega)
    have h3 : -(4 * 1053696000) ≤ k * -1053696000 := by omega
    refine ⟨by omega, ?_⟩
    show sgn (kerS F k cp rp) * sm (kerR F k cp rp) k ≤ _
    unfold sgn
    split <;> omega
/-! the least of fractions, the first of them -/
def mnR (q : Int → Bool) (f : Int → Int × Int) (n : Int) : (Int × Int) × Int := fold (fun r b => if q b = true ∧ (r.2 < 0 ∨ (f b).1 * r.1.2 < r.1.1 * (f b).2) then (f b, b) else r) ((0, 0), -1) n
theorem mnR_s {q : Int → Bool} {f : Int → Int × Int} {n : Int} (h : 0 ≤ n) : mnR q f (n + 1) = if q n = true ∧ ((mnR q f n).2 < 0 ∨ (f n).1 * (mnR q f n).1.2 < (mnR q f n).1.1 * (f n).2) then (f n, n) else mnR q f n := fold_s h
theorem mnR_cases {q : Int → Bool} {f : Int → Int × Int} {n : Int} (hn : 0 ≤ n) : (mnR q f n = ((0, 0), -1) ∧ ∀ b, 0 ≤ b → b < n → q b = false) ∨ ∃ k, (0 ≤ k ∧ k < n) ∧ mnR q f n = (f k, k) ∧ q k = true := by
  refine nat_ind (P := fun n => (mnR q f n = ((0, 0), -1) ∧ ∀ b, 0 ≤ b → b < n → q b = false) ∨ ∃ k, (0 ≤ k ∧ k < n) ∧ mnR q f n = (f k, k) ∧ q k = true) (Or.inl ⟨rfl, fun b b0 b1 => by omega⟩) (fun i i0 ih => ?_) n hn
  show _ ∨ _
  rw [mnR_s i0]
  by_cases c : q i = true ∧ ((mnR q f i).2 < 0 ∨ (f i).1 * (mnR q f i).1.2 < (mnR q f i).1.1 * (f i).2)
  · rw [if_pos c]
    exact Or.inr ⟨i, by omega, rfl, c.1⟩
  · rw [if_neg c]
    rcases ih with ⟨h1, h2⟩ | ⟨k, hk, h1, h2⟩
    · refine Or.inl ⟨h1, fun b b0 b1 => ?_⟩
      by_cases e : b = i
      · subst e
        cases hq : q b
        · rfl
        · exact absurd ⟨hq, Or.inl (by rw [h1]; decide)⟩ c
      · exact h2 b b0 (by omega)
    · exact Or.inr ⟨k, by omega, h1, h2⟩
theorem mnR_skip {q : Int → Bool} {f : Int → Int × Int} {n n' : Int} (h0 : 0 ≤ n) (h1 : n ≤ n') (h : ∀ b, n ≤ b → b < n' → q b = false) : mnR q f n' = mnR q f n := by
  have := nat_ind (P := fun j => n + j ≤ n' → mnR q f (n + j) = mnR q f n) (fun _ => by rw [Int.add_zero]) (fun i i0 ih hi => by
    rw [← Int.add_assoc, mnR_s (by omega), h (n + i) (by omega) (by omega), if_neg (fun c => by simp at c)]
    exact ih (by omega)) (n' - n) (by omega) (by omega)
  have e : n + (n' - n) = n' := by omega
  rwa [e] at this
