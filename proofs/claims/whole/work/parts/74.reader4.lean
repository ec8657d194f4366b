/-- a town while its text is read -/
def RdOk (v : TV) : Prop := TVok v ∧ (0 ≤ v 1 0 ∧ v 1 0 ≤ 20) ∧ v 8 0 = 0 ∧ v 12 0 = 0
theorem RdOk_beg {p : Int} (h : 2 ≤ p ∧ p ≤ 8) : RdOk (begV p) := by
  have c5 : ∀ a : Int, 0 ≤ a → a < 8 → begV p 5 a = 12 := fun a a0 a1 => clip_in (f := fun _ => 12) a0 a1
  have c6 : ∀ a : Int, 0 ≤ a → a < 8 → begV p 6 a = 1 := fun a a0 a1 => clip_in (f := fun _ => 1) a0 a1
  have z : ∀ (f : Nat) (j : Int), f ≠ 0 → f ≠ 5 → f ≠ 6 → begV p f j = 0 := fun f j h0 h5 h6 => by
    unfold begV
    split
    · exact absurd rfl h0
    · exact absurd rfl h5
    · exact absurd rfl h6
    · rfl
  refine ⟨⟨h, by rw [z 2 _ (by decide) (by decide) (by decide)]; omega, by rw [z 3 _ (by decide) (by decide) (by decide)]; omega, fun a a0 a1 => ?_, fun a _ _ => z 4 _ (by decide) (by decide) (by decide), fun j _ _ => by rw [z 7 _ (by decide) (by decide) (by decide)]; omega, fun a b _ _ _ _ => ?_, by rw [z 8 _ (by decide) (by decide) (by decide)]; omega, fun w w0 w1 => ?_, by rw [z 12 _ (by decide) (by decide) (by decide)]; omega, fun i i0 i1 => ?_⟩, by rw [z 1 _ (by decide) (by decide) (by decide)]; omega, z 8 _ (by decide) (by decide) (by decide), z 12 _ (by decide) (by decide) (by decide)⟩
  · rw [z 4 _ (by decide) (by decide) (by decide), c5 a a0 a1, c6 a a0 a1]; omega
  · rw [z 7 _ (by decide) (by decide) (by decide), z 7 _ (by decide) (by decide) (by decide), z 7 _ (by decide) (by decide) (by decide)]
    exact ⟨rfl, rfl, fun _ => rfl⟩
  · rw [z 8 _ (by decide) (by decide) (by decide)] at w1; omega
  · rw [z 12 _ (by decide) (by decide) (by decide)] at i1; omega
theorem RdOk_set {v : TV} {f : Nat} {a x lo hi : Int} (h : RdOk v) (hf : (f = 4 ∧ lo = 0 ∧ hi = 99) ∨ (f = 5 ∧ lo = 1 ∧ hi = 12) ∨ (f = 6 ∧ lo = 1 ∧ hi = 99)) (ha : 0 ≤ a ∧ a < v 0 0) (hx : lo ≤ x ∧ x ≤ hi) : RdOk (setV v f a x) := by
  obtain ⟨⟨h1, h2, h3, h4, h5, h6, h7, h8, h9, h10, h11⟩, hl, hw, hd⟩ := h
  have e : ∀ g : Nat, g ≠ 4 → g ≠ 5 → g ≠ 6 → setV v f a x g = v g := fun g g4 g5 g6 => setV_ne (by omega)
  unfold RdOk TVok
  rw [e 0 (by decide) (by decide) (by decide), e 1 (by decide) (by decide) (by decide), e 2 (by decide) (by decide) (by decide), e 3 (by decide) (by decide) (by decide), e 7 (by decide) (by decide) (by decide), e 8 (by decide) (by decide) (by decide), e 9 (by decide) (by decide) (by decide), e 10 (by decide) (by decide) (by decide), e 11 (by decide) (by decide) (by decide), e 12 (by decide) (by decide) (by decide), e 13 (by decide) (by decide) (by decide)]
  refine ⟨⟨h1, h2, h3, fun b b0 b1 => ?_, fun b b0 b1 => ?_, h6, h7, h8, h9, h10, h11⟩, hl, hw, hd⟩
  · have hb := h4 b b0 b1
    rcases hf with ⟨q1, q2, q3⟩ | ⟨q1, q2, q3⟩ | ⟨q1, q2, q3⟩ <;> subst q1 <;> subst q2 <;> subst q3
    · rw [setV_eq, setV_ne (by decide), setV_ne (by decide)]
      by_cases c : b = a
      · rw [c, r1_eq]; rw [c] at hb; omega
      · rw [r1_ne c]; exact hb
    · rw [setV_eq, setV_ne (by decide), setV_ne (by decide)]
      by_cases c : b = a
      · rw [c, r1_eq]; rw [c] at hb; omega
      · rw [r1_ne c]; exact hb
    · rw [setV_eq, setV_ne (by decide), setV_ne (by decide)]
      by_cases c : b = a
      · rw [c, r1_eq]; rw [c] at hb; omega
      · rw [r1_ne c]; exact hb
  · rcases hf with ⟨q1, _, _⟩ | ⟨q1, _, _⟩ | ⟨q1, _, _⟩ <;> subst q1
    · rw [setV_eq, r1_ne (by omega)]; exact h5 b b0 b1
    · rw [setV_ne (by decide)]; exact h5 b b0 b1
    · rw [setV_ne (by decide)]; exact h5 b b0 b1
theorem RdOk_put {v : TV} {f : Nat} {x hi : Int} (h : RdOk v) (hf : (f = 2 ∧ hi = 999) ∨ (f = 3 ∧ hi = 12)) (hx : 0 ≤ x ∧ x ≤ hi) : RdOk (setP v f x) := by
  obtain ⟨⟨h1, h2, h3, h4, h5, h6, h7, h8, h9, h10, h11⟩, hl, hw, hd⟩ := h
  have e : ∀ g : Nat, g ≠ 2 → g ≠ 3 → setP v f x g = v g := fun g g4 g5 => setP_ne (by omega)
  unfold RdOk TVok
  rw [e 0 (by decide) (by decide), e 1 (by decide) (by decide), e 4 (by decide) (by decide), e 5 (by decide) (by decide), e 6 (by decide) (by decide), e 7 (by decide) (by decide), e 8 (by decide) (by decide), e 9 (by decide) (by decide), e 10 (by decide) (by decide), e 11 (by decide) (by decide), e 12 (by decide) (by decide), e 13 (by decide) (by decide)]
  refine ⟨⟨h1, ?_, ?_, h4, h5, h6, h7, h8, h9, h10, h11⟩, hl, hw, hd⟩
  · rcases hf with ⟨q1, q2⟩ | ⟨q1, q2⟩ <;> subst q1 <;> subst q2
    · rw [setP_eq]; exact hx
    · rw [setP_ne (by decide)]; exact h2
  · rcases hf with ⟨q1, q2⟩ | ⟨q1, q2⟩ <;> subst q1 <;> subst q2
    · rw [setP_ne (by decide)]; exact h3
    · rw [setP_eq]; exact hx
theorem RdOk_lane {v : TV} {a b k : Int} (h : RdOk v) (hl : ¬ 20 ≤ v 1 0) (ha : 0 ≤ a ∧ a < v 0 0) (hb : 0 ≤ b ∧ b < v 0 0) (hab : a ≠ b) (hk : 1 ≤ k ∧ k ≤ 20) : RdOk (addLV v a b k) := by
  obtain ⟨⟨h1, h2, h3, h4, h5, h6, h7, h8, h9, h10, h11⟩, hl2, hw, hd⟩ := h
  have e7 : ∀ j, addLV v a b k 7 j = if j = 8 * b + a ∨ j = 8 * a + b then k else v 7 j := fun _ => rfl
  refine ⟨⟨h1, h2, h3, h4, h5, fun j j0 j1 => ?_, fun c d c0 c1 d0 d1 => ⟨?_, ?_, fun hc => ?_⟩, h8, h9, h10, h11⟩, by show 0 ≤ v 1 0 + 1 ∧ v 1 0 + 1 ≤ 20; omega, hw, hd⟩
  · rw [e7]
    split
    · omega
    · exact h6 j j0 j1
  · rw [e7, e7]
    have q := (h7 c d c0 c1 d0 d1).1
    by_cases x : 8 * c + d = 8 * b + a ∨ 8 * c + d = 8 * a + b
    · rw [if_pos x, if_pos (by omega)]
    · rw [if_neg x, if_neg (by omega)]; exact q
  · rw [e7, if_neg (by omega)]; exact (h7 c d c0 c1 d0 d1).2.1
  · have hc' : v 0 0 ≤ c := hc
    rw [e7, if_neg (by omega)]; exact (h7 c d c0 c1 d0 d1).2.2 hc'
theorem RdOk_line {K S V : Int → Int} {p : Int} {v : TV} (h : RdOk v) (h0 : (lineV K S V p v).1.1 = 0) : RdOk (lineV K S V p v).2 := by
  have n2 : ¬ (2 : Int) = 0 := by decide
  have n3 : ¬ (3 : Int) = 0 := by decide
  have plc : ∀ (f : Nat) (lo hi : Int), (f = 4 ∧ lo = 0 ∧ hi = 99) ∨ (f = 5 ∧ lo = 1 ∧ hi = 12) ∨ (f = 6 ∧ lo = 1 ∧ hi = 99) → (plcV S V p v f lo hi).1.1 = 0 → RdOk (plcV S V p v f lo hi).2 := by
    intro f lo hi hf
    unfold plcV
    by_cases c1 : 0 ≤ V (p + 1) ∧ V (p + 1) < v 0 0
    · rw [if_neg (fun q => q c1)]
      by_cases c2 : lo ≤ V (p + 2) ∧ V (p + 2) ≤ hi
      · rw [if_neg (fun q => q c2)]
        intro _
        exact RdOk_set h hf c1 c2
      · rw [if_pos c2]; intro q; exact absurd q n2
    · rw [if_pos c1]; intro q; exact absurd q n2
  have onl : ∀ (f : Nat) (hi : Int), (f = 2 ∧ hi = 999) ∨ (f = 3 ∧ hi = 12) → (onlV S V p v f hi).1.1 = 0 → RdOk (onlV S V p v f hi).2 := by
    intro f hi hf
    unfold onlV
    by_cases c1 : 0 ≤ V (p + 1) ∧ V (p + 1) ≤ hi
    · rw [if_neg (fun q => q c1)]
      intro _
      exact RdOk_put h hf c1
    · rw [if_pos c1]; intro q; exact absurd q n2
  have lan : (lanV S V p v).1.1 = 0 → RdOk (lanV S V p v).2 := by
    unfold lanV
    by_cases c0 : 20 ≤ v 1 0 ∨ ((0 ≤ V (p + 1) ∧ V (p + 1) < v 0 0) ∧ (0 ≤ V (p + 2) ∧ V (p + 2) < v 0 0) ∧ v 7 (8 * V (p + 1) + V (p + 2)) ≠ 0)
    · rw [if_pos c0]; intro q; exact absurd q n3
    · rw [if_neg c0]
      by_cases c1 : 0 ≤ V (p + 1) ∧ V (p + 1) < v 0 0
      · rw [if_neg (fun q => q c1)]
        by_cases c2 : ¬ (0 ≤ V (p + 2) ∧ V (p + 2) < v 0 0) ∨ V (p + 1) = V (p + 2)
        · rw [if_pos c2]; intro q; exact absurd q n2
        · rw [if_neg c2]
          by_cases c3 : 1 ≤ V (p + 3) ∧ V (p + 3) ≤ 20
          · rw [if_neg (fun q => q c3)]
            intro _
            exact RdOk_lane h (fun q => c0 (Or.inl q)) c1 (Classical.byContradiction fun q => c2 (Or.inl q)) (fun q => c2 (Or.inr q)) c3
          · rw [if_pos c3]; intro q; exact absurd q n2
      · rw [if_pos c1]; intro q; exact absurd q n2
  unfold lineV at h0 ⊢
  split
  · rename_i c; rw [if_pos c] at h0; exact lan h0
  · rename_i c; rw [if_neg c] at h0
    split
    · rename_i c; rw [if_pos c] at h0; exact plc _ _ _ (Or.inl ⟨rfl, rfl, rfl⟩) h0
    · rename_i c; rw [if_neg c] at h0
      split
      · rename_i c; rw [if_pos c] at h0; exact plc _ _ _ (Or.inr (Or.inl ⟨rfl, rfl, rfl⟩)) h0
      · rename_i c; rw [if_neg c] at h0
        split
        · rename_i c; rw [if_pos c] at h0; exact plc _ _ _ (Or.inr (Or.inr ⟨rfl, rfl, rfl⟩)) h0
        · rename_i c; rw [if_neg c] at h0
          split
          · rename_i c; rw [if_pos c] at h0; exact onl _ _ (Or.inl ⟨rfl, rfl⟩) h0
          · rename_i c; rw [if_neg c] at h0; exact onl _ _ (Or.inr ⟨rfl, rfl⟩) h0
/-- of a text: a line begins at p -/
theorem gram_at {K : Int → Int} {f : Nat} {p : Int} (p0 : 0 < p) (h : gramN K (f + 1) p < 0) (hk : K p ≠ 0) (kb : 0 ≤ K p ∧ K p ≤ 10) : (4 ≤ K p ∧ K p ≤ 9) ∧ (∀ j : Int, 1 ≤ j → j ≤ nbK (K p) → K (p + j) = 2) ∧ gramN K f (p + 2 + nbK (K p)) < 0 := by
  have hg : gramN K (f + 1) p = if 0 < p ∧ K p = 0 then -1 else if 0 ≤ lineE K p then lineE K p else gramN K f (p + 2 + nbK (K p)) := rfl
  rw [hg, if_neg (fun q => hk q.2)] at h
  by_cases c : 0 ≤ lineE K p
  · rw [if_pos c] at h; omega
  · rw [if_neg c] at h
    have nb := nbK_bd (k := K p)
    unfold lineE at c
    by_cases c1 : (p = 0 ∧ K p ≠ 3) ∨ (p ≠ 0 ∧ K p = 3) ∨ nbK (K p) = 0
    · rw [if_pos c1] at c; omega
    · rw [if_neg c1] at c
      rcases frst_cases (lineQ K p) (show 0 ≤ nbK (K p) + 1 by omega) with ⟨_, hq⟩ | ⟨k, k0, k1, e, _⟩
      · have k3 : K p ≠ 3 := fun q => c1 (Or.inr (Or.inl ⟨by omega, q⟩))
        have kn : nbK (K p) ≠ 0 := fun q => c1 (Or.inr (Or.inr q))
        have k4 : 4 ≤ K p ∧ K p ≤ 9 := by
          unfold nbK at kn
          by_cases c3 : K p = 3
          · exact absurd c3 k3
          · rw [if_neg c3] at kn
            by_cases c4 : K p = 4
            · omega
            · rw [if_neg c4] at kn
              by_cases c5 : K p = 5
              · omega
              · rw [if_neg c5] at kn
                by_cases c6 : K p = 6
                · omega
                · rw [if_neg c6] at kn
                  by_cases c7 : K p = 7
                  · omega
                  · rw [if_neg c7] at kn
                    by_cases c8 : K p = 8
                    · omega
                    · rw [if_neg c8] at kn
                      by_cases c9 : K p = 9
                      · omega
                      · rw [if_neg c9] at kn; exact absurd rfl kn
        refine ⟨k4, fun j j1 j2 => ?_, h⟩
        have q := hq (j - 1) (by omega) (by omega)
        unfold lineQ at q
        rw [if_pos (by omega)] at q
        have e : p + 1 + (j - 1) = p + j := by omega
        rw [e] at q
        have := of_decide_eq_true (show decide (K (p + j) = 2) = true by
          cases hd : decide (K (p + j) = 2)
          · rw [hd] at q; exact absurd q (by decide)
          · rfl)
        exact this
      · rw [e, if_neg (by omega)] at c; omega
def P_X5_takeLines (o d : Int) (μ : Mem) : Prop := o = 145 ∧ d = 135 ∧ TkB μ ∧ gramN (Km μ) 502 0 < 0 ∧ ∀ i : Int, Km μ i = 2 → 0 ≤ Vm μ i ∧ Vm μ i ≤ 9999
def Q_X5_takeLines (_ _ : Int) (μ μ' : Mem) (r : Int) : Prop := (0 ≤ r ∧ r ≤ 1) ∧ LR μ μ' r (if Vm μ 1 < 2 ∨ 8 < Vm μ 1 then ((2, Sm μ 1), begV 2) else linesV (Km μ) (Sm μ) (Vm μ) 502 3 0 (begV (Vm μ 1))) ∧ (r = 1 → RdOk (tv μ' 135))
def S_X5_takeLines : S0t := fun as μ Q => match as with
  | [(2, x0), (2, x1)] => P_X5_takeLines x0 x1 μ ∧ ∀ (μ' : Mem) (r : Int), Q_X5_takeLines x0 x1 μ μ' r → Q μ' (some (kI r))
  | _ => False
theorem mono_X5_takeLines : Mono S_X5_takeLines := by
  intro as μ Q Q' h hS
  unfold S_X5_takeLines at hS ⊢
  split at hS
  · exact ⟨hS.1, fun μ' r q => h _ _ (hS.2 _ _ q)⟩
  · exact hS.elim
def iX5_takeLines : Inf := (kX5_takeLines, fTX5, pTX5, cTX5, lTX5, sTX5, [(118, 0, 1, 5, S_X5_valueAt), (111, 0, 1, 5, S_X5_startAt), (114, 0, 2, 5, S_X5_refuse), (121, 0, 1, 7, S_X7_begin), (104, 0, 1, 5, S_X5_kindAt), (127, 0, 2, 5, S_X5_takeLine), (108, 1, 1, 0, S_X5_numbersBehind)])
theorem ok_X5_takeLines : infOK iX5_takeLines mX5_takeLines RX5 4 94 := ⟨kkX5_takeLines, fTX5_ok, pTX5_ok _, cTX5_ok, lTX5_ok, sTX5_ok, c_cons ⟨mX5_valueAt, 0, 0, ct_X5_valueAt, mmX5_valueAt, vvX5_valueAt, lkX5_118, ⟨by decide, by decide⟩, ⟨_, _, rfl⟩, by decide, mono_X5_valueAt⟩ (c_cons ⟨mX5_startAt, 0, 0, ct_X5_startAt, mmX5_startAt, vvX5_startAt, lkX5_111, ⟨by decide, by decide⟩, ⟨_, _, rfl⟩, by decide, mono_X5_startAt⟩ (c_cons ⟨mX5_refuse, 0, 0, ct_X5_refuse, mmX5_refuse, vvX5_refuse, lkX5_114, ⟨by decide, by decide⟩, ⟨_, _, rfl⟩, by decide, mono_X5_refuse⟩ (c_cons ⟨mX7_begin, 1, 23, ct_X7_begin, mmX7_begin, vvX7_begin, lkX5_121, ⟨by decide, by decide⟩, ⟨_, _, rfl⟩, by decide, mono_X7_begin⟩ (c_cons ⟨mX5_kindAt, 0, 0, ct_X5_kindAt, mmX5_kindAt, vvX5_kindAt, lkX5_104, ⟨by decide, by decide⟩, ⟨_, _, rfl⟩, by decide, mono_X5_kindAt⟩ (c_cons ⟨mX5_takeLine, 3, 72, ct_X5_takeLine, mmX5_takeLine, vvX5_takeLine, lkX5_127, ⟨by decide, by decide⟩, ⟨_, _, rfl⟩, by decide, mono_X5_takeLine⟩ (c_cons ⟨mX5_numbersBehind, 0, 0, ct_X5_numbersBehind, mmX5_numbersBehind, stX5_numbersBehind, lkX5_108, ⟨by decide, by decide⟩, mono_X5_numbersBehind⟩ (c_nil)))))))⟩
theorem mt_X5_takeLines : mtOK [] RX5 4 94 := mt_nil
abbrev V_X5_takeLines (R : Mem → Option AV → Prop) (pc : Nat) (lc : List (Nat × AV)) (μ : Mem) : Prop := VM mX5_takeLines RX5 4 94 R pc lc [] μ
set_option maxRecDepth 20000 in
theorem vc_X5_takeLines_0 {R : Mem → Option AV → Prop} {μ : Mem} (H : P_X5_valueAt 145 1 μ ∧ r32 (F_X5_valueAt 145 1 μ) ∧ (((F_X5_valueAt 145 1 μ) < (2 : Int)) → P_X5_startAt 145 1 μ ∧ P_X5_refuse 145 2 (F_X5_startAt 145 1 μ) μ ∧ (∀ (μ1 : Mem) (rv2 : Int), Q_X5_refuse 145 2 (F_X5_startAt 145 1 μ) μ μ1 rv2 → (0 ≤ rv2 ∧ rv2 ≤ 1) ∧ R μ1 (some (kI rv2)))) ∧ (¬ ((F_X5_valueAt 145 1 μ) < (2 : Int)) → r32 (F_X5_valueAt 145 1 μ) ∧ (((F_X5_valueAt 145 1 μ) ≤ (8 : Int)) → P_X7_begin 135 (F_X5_valueAt 145 1 μ) μ ∧ (∀ (μ4 : Mem), Q_X7_begin 135 (F_X5_valueAt 145 1 μ) μ μ4 → V_X5_takeLines R 33 [(0, kR 145), (1, kR 135)] μ4)) ∧ (¬ ((F_X5_valueAt 145 1 μ) ≤ (8 : Int)) → P_X5_startAt 145 1 μ ∧ P_X5_refuse 145 2 (F_X5_startAt 145 1 μ) μ ∧ (∀ (μ7 : Mem) (rv8 : Int), Q_X5_refuse 145 2 (F_X5_startAt 145 1 μ) μ μ7 rv8 → (0 ≤ rv8 ∧ rv8 ≤ 1) ∧ R μ7 (some (kI rv8)))))) : V_X5_takeLines R 0 [(0, kR 145), (1, kR 135)] μ := by
  refine vm_step2 mt_X5_takeLines ok_X5_takeLines [(33, [0, 1]), (38, [0, 1, 3, 4])] 1000 ?_
  show isC 145 5 ∧ P_X5_valueAt 145 1 μ ∧ (r32 (F_X5_valueAt 145 1 μ) ∧ r32 (2 : Int)) ∧ (((F_X5_valueAt 145 1 μ) < (2 : Int)) → isC 145 5 ∧ P_X5_startAt 145 1 μ ∧ isC 145 5 ∧ P_X5_refuse 145 2 (F_X5_startAt 145 1 μ) μ ∧ (∀ (μ1 : Mem) (rv2 : Int), Q_X5_refuse 145 2 (F_X5_startAt 145 1 μ) μ μ1 rv2 → (0 ≤ rv2 ∧ rv2 ≤ 1) ∧ R μ1 (some (kI rv2)))) ∧ (¬ ((F_X5_valueAt 145 1 μ) < (2 : Int)) → (r32 (F_X5_valueAt 145 1 μ) ∧ r32 (8 : Int)) ∧ (((F_X5_valueAt 145 1 μ) ≤ (8 : Int)) → isC 135 7 ∧ P_X7_begin 135 (F_X5_valueAt 145 1 μ) μ ∧ (∀ (μ4 : Mem), Q_X7_begin 135 (F_X5_valueAt 145 1 μ) μ μ4 → V_X5_takeLines R 33 [(0, kR 145), (1, kR 135)] μ4)) ∧ (¬ ((F_X5_valueAt 145 1 μ) ≤ (8 : Int)) → isC 145 5 ∧ P_X5_startAt 145 1 μ ∧ isC 145 5 ∧ P_X5_refuse 145 2 (F_X5_startAt 145 1 μ) μ ∧ (∀ (μ7 : Mem) (rv8 : Int), Q_X5_refuse 145 2 (F_X5_startAt 145 1 μ) μ μ7 rv8 → (0 ≤ rv8 ∧ rv8 ≤ 1) ∧ R μ7 (some (kI rv8)))))
  exact ⟨c_145, H.1, ⟨⟨H.2.1, by unfold r32; omega⟩, fun hc11 => ⟨c_145, (H.2.2.1 hc11).1, ⟨c_145, (H.2.2.1 hc11).2.1, fun μ1 rv2 hq3 => ((H.2.2.1 hc11).2.2 μ1 rv2 hq3)⟩⟩, fun hc11 => ⟨⟨(H.2.2.2 hc11).1, by unfold r32; omega⟩, fun hc10 => ⟨c_135, ((H.2.2.2 hc11).2.1 hc10).1, fun μ4 hq6 => (((H.2.2.2 hc11).2.1 hc10).2 μ4 hq6)⟩, fun hc10 => ⟨c_145, ((H.2.2.2 hc11).2.2 hc10).1, ⟨c_145, ((H.2.2.2 hc11).2.2 hc10).2.1, fun μ7 rv8 hq9 => (((H.2.2.2 hc11).2.2 hc10).2.2 μ7 rv8 hq9)⟩⟩⟩⟩⟩
set_option maxRecDepth 20000 in
theorem vc_X5_takeLines_33 {R : Mem → Option AV → Prop} {μ : Mem} (H : V_X5_takeLines R 38 [(0, kR 145), (1, kR 135), (3, kI 3), (4, kI 0)] μ) : V_X5_takeLines R 33 [(0, kR 145), (1, kR 135)] μ := by
  refine vm_step2 mt_X5_takeLines ok_X5_takeLines [(33, [0, 1]), (38, [0, 1, 3, 4])] 1000 ?_
  show V_X5_takeLines R 38 [(0, kR 145), (1, kR 135), (3, kI 3), (4, kI 0)] μ
  exact H
set_option maxRecDepth 20000 in
theorem vc_X5_takeLines_38 {R : Mem → Option AV → Prop} {i ln : Int} {μ : Mem} (H : r32 ln ∧ (((40 : Int) ≤ ln) → P_X5_kindAt 145 i μ ∧ r32 (F_X5_kindAt 145 i μ) ∧ (((F_X5_kindAt 145 i μ) = 0) → R μ (some (kI 1))) ∧ (¬ ((F_X5_kindAt 145 i μ) = 0) → P_X5_startAt 145 i μ ∧ P_X5_refuse 145 3 (F_X5_startAt 145 i μ) μ ∧ (∀ (μ12 : Mem) (rv13 : Int), Q_X5_refuse 145 3 (F_X5_startAt 145 i μ) μ μ12 rv13 → r32 rv13 ∧ ((rv13 = 0) → R μ12 (some (kI 0))) ∧ (¬ (rv13 = 0) → R μ12 (some (kI 1)))))) ∧ (¬ ((40 : Int) ≤ ln) → P_X5_kindAt 145 i μ ∧ r32 (F_X5_kindAt 145 i μ) ∧ (((F_X5_kindAt 145 i μ) = 0) → P_X5_kindAt 145 i μ ∧ r32 (F_X5_kindAt 145 i μ) ∧ (((F_X5_kindAt 145 i μ) = 0) → R μ (some (kI 1))) ∧ (¬ ((F_X5_kindAt 145 i μ) = 0) → P_X5_startAt 145 i μ ∧ P_X5_refuse 145 3 (F_X5_startAt 145 i μ) μ ∧ (∀ (μ17 : Mem) (rv18 : Int), Q_X5_refuse 145 3 (F_X5_startAt 145 i μ) μ μ17 rv18 → r32 rv18 ∧ ((rv18 = 0) → R μ17 (some (kI 0))) ∧ (¬ (rv18 = 0) → R μ17 (some (kI 1)))))) ∧ (¬ ((F_X5_kindAt 145 i μ) = 0) → P_X5_takeLine 145 135 i μ ∧ (∀ (μ22 : Mem) (rv23 : Int), Q_X5_takeLine 145 135 i μ μ22 rv23 → r32 rv23 ∧ ((¬ rv23 = 0) → P_X5_kindAt 145 i μ22 ∧ P_X5_numbersBehind (F_X5_kindAt 145 i μ22) μ22 ∧ V_X5_takeLines R 38 [(0, kR 145), (1, kR 135), (3, kI (i + (2 + (F_X5_numbersBehind (F_X5_kindAt 145 i μ22) μ22)))), (4, kI (ln + 1))] μ22) ∧ (¬ (¬ rv23 = 0) → R μ22 (some (kI 0))))))) : V_X5_takeLines R 38 [(0, kR 145), (1, kR 135), (3, kI i), (4, kI ln)] μ := by
  refine vm_step2 mt_X5_takeLines ok_X5_takeLines [(33, [0, 1]), (38, [0, 1, 3, 4])] 1000 ?_
  show (r32 ln ∧ r32 (40 : Int)) ∧ (((40 : Int) ≤ ln) → isC 145 5 ∧ P_X5_kindAt 145 i μ ∧ r32 (F_X5_kindAt 145 i μ) ∧ (((F_X5_kindAt 145 i μ) = 0) → (0 ≤ (1 : Int) ∧ (1 : Int) ≤ 1) ∧ R μ (some (kI 1))) ∧ (¬ ((F_X5_kindAt 145 i μ) = 0) → isC 145 5 ∧ P_X5_startAt 145 i μ ∧ isC 145 5 ∧ P_X5_refuse 145 3 (F_X5_startAt 145 i μ) μ ∧ (∀ (μ12 : Mem) (rv13 : Int), Q_X5_refuse 145 3 (F_X5_startAt 145 i μ) μ μ12 rv13 → r32 rv13 ∧ ((rv13 = 0) → (0 ≤ (0 : Int) ∧ (0 : Int) ≤ 1) ∧ R μ12 (some (kI 0))) ∧ (¬ (rv13 = 0) → (0 ≤ (1 : Int) ∧ (1 : Int) ≤ 1) ∧ R μ12 (some (kI 1)))))) ∧ (¬ ((40 : Int) ≤ ln) → isC 145 5 ∧ P_X5_kindAt 145 i μ ∧ r32 (F_X5_kindAt 145 i μ) ∧ (((F_X5_kindAt 145 i μ) = 0) → isC 145 5 ∧ P_X5_kindAt 145 i μ ∧ r32 (F_X5_kindAt 145 i μ) ∧ (((F_X5_kindAt 145 i μ) = 0) → (0 ≤ (1 : Int) ∧ (1 : Int) ≤ 1) ∧ R μ (some (kI 1))) ∧ (¬ ((F_X5_kindAt 145 i μ) = 0) → isC 145 5 ∧ P_X5_startAt 145 i μ ∧ isC 145 5 ∧ P_X5_refuse 145 3 (F_X5_startAt 145 i μ) μ ∧ (∀ (μ17 : Mem) (rv18 : Int), Q_X5_refuse 145 3 (F_X5_startAt 145 i μ) μ μ17 rv18 → r32 rv18 ∧ ((rv18 = 0) → (0 ≤ (0 : Int) ∧ (0 : Int) ≤ 1) ∧ R μ17 (some (kI 0))) ∧ (¬ (rv18 = 0) → (0 ≤ (1 : Int) ∧ (1 : Int) ≤ 1) ∧ R μ17 (some (kI 1)))))) ∧ (¬ ((F_X5_kindAt 145 i μ) = 0) → isC 145 5 ∧ P_X5_takeLine 145 135 i μ ∧ (∀ (μ22 : Mem) (rv23 : Int), Q_X5_takeLine 145 135 i μ μ22 rv23 → r32 rv23 ∧ ((¬ rv23 = 0) → isC 145 5 ∧ P_X5_kindAt 145 i μ22 ∧ P_X5_numbersBehind (F_X5_kindAt 145 i μ22) μ22 ∧ V_X5_takeLines R 38 [(0, kR 145), (1, kR 135), (3, kI (i + (2 + (F_X5_numbersBehind (F_X5_kindAt 145 i μ22) μ22)))), (4, kI (ln + 1))] μ22) ∧ (¬ (¬ rv23 = 0) → (0 ≤ (0 : Int) ∧ (0 : Int) ≤ 1) ∧ R μ22 (some (kI 0))))))
  exact ⟨⟨H.1, by unfold r32; omega⟩, fun hc27 => ⟨c_145, (H.2.1 hc27).1, ⟨(H.2.1 hc27).2.1, fun hc16 => ⟨⟨by omega, by omega⟩, ((H.2.1 hc27).2.2.1 hc16)⟩, fun hc16 => ⟨c_145, ((H.2.1 hc27).2.2.2 hc16).1, ⟨c_145, ((H.2.1 hc27).2.2.2 hc16).2.1, fun μ12 rv13 hq14 => ⟨(((H.2.1 hc27).2.2.2 hc16).2.2 μ12 rv13 hq14).1, fun hc15 => ⟨⟨by omega, by omega⟩, ((((H.2.1 hc27).2.2.2 hc16).2.2 μ12 rv13 hq14).2.1 hc15)⟩, fun hc15 => ⟨⟨by omega, by omega⟩, ((((H.2.1 hc27).2.2.2 hc16).2.2 μ12 rv13 hq14).2.2 hc15)⟩⟩⟩⟩⟩⟩, fun hc27 => ⟨c_145, (H.2.2 hc27).1, ⟨(H.2.2 hc27).2.1, fun hc26 => ⟨c_145, ((H.2.2 hc27).2.2.1 hc26).1, ⟨((H.2.2 hc27).2.2.1 hc26).2.1, fun hc21 => ⟨⟨by omega, by omega⟩, (((H.2.2 hc27).2.2.1 hc26).2.2.1 hc21)⟩, fun hc21 => ⟨c_145, (((H.2.2 hc27).2.2.1 hc26).2.2.2 hc21).1, ⟨c_145, (((H.2.2 hc27).2.2.1 hc26).2.2.2 hc21).2.1, fun μ17 rv18 hq19 => ⟨((((H.2.2 hc27).2.2.1 hc26).2.2.2 hc21).2.2 μ17 rv18 hq19).1, fun hc20 => ⟨⟨by omega, by omega⟩, (((((H.2.2 hc27).2.2.1 hc26).2.2.2 hc21).2.2 μ17 rv18 hq19).2.1 hc20)⟩, fun hc20 => ⟨⟨by omega, by omega⟩, (((((H.2.2 hc27).2.2.1 hc26).2.2.2 hc21).2.2 μ17 rv18 hq19).2.2 hc20)⟩⟩⟩⟩⟩⟩, fun hc26 => ⟨c_145, ((H.2.2 hc27).2.2.2 hc26).1, fun μ22 rv23 hq24 => ⟨(((H.2.2 hc27).2.2.2 hc26).2 μ22 rv23 hq24).1, fun hc25 => ⟨c_145, ((((H.2.2 hc27).2.2.2 hc26).2 μ22 rv23 hq24).2.1 hc25).1, ⟨((((H.2.2 hc27).2.2.2 hc26).2 μ22 rv23 hq24).2.1 hc25).2.1, ((((H.2.2 hc27).2.2.2 hc26).2 μ22 rv23 hq24).2.1 hc25).2.2⟩⟩, fun hc25 => ⟨⟨by omega, by omega⟩, ((((H.2.2 hc27).2.2.2 hc26).2 μ22 rv23 hq24).2.2 hc25)⟩⟩⟩⟩⟩⟩
theorem body_X5_takeLines {o d : Int} {μ : Mem} {R : Mem → Option AV → Prop} (h : P_X5_takeLines o d μ) (hR : ∀ (μ' : Mem) (r : Int), Q_X5_takeLines o d μ μ' r → R μ' (some (kI r))) : V_X5_takeLines R 0 [(0, kR o), (1, kR d)] μ := by
  obtain ⟨rfl, rfl, hb, hg, hv⟩ := h
  have tb := hb.1
  have kb := fun (i : Int) => (Km_bd hb i).1
  have s1 := (Km_bd hb 1).2
  -- the head
  have head : Km μ 0 = 3 ∧ Km μ 1 = 2 ∧ gramN (Km μ) 501 3 < 0 := by
    have hgg : gramN (Km μ) 502 0 = if (0 : Int) < 0 ∧ Km μ 0 = 0 then -1 else if 0 ≤ lineE (Km μ) 0 then lineE (Km μ) 0 else gramN (Km μ) 501 (0 + 2 + nbK (Km μ 0)) := rfl
    rw [hgg, if_neg (by omega)] at hg
    by_cases c : 0 ≤ lineE (Km μ) 0
    · rw [if_pos c] at hg; omega
    · rw [if_neg c] at hg
      unfold lineE at c
      by_cases c1 : ((0 : Int) = 0 ∧ Km μ 0 ≠ 3) ∨ ((0 : Int) ≠ 0 ∧ Km μ 0 = 3) ∨ nbK (Km μ 0) = 0
      · rw [if_pos c1] at c; exact absurd (Int.le_refl 0) c
      · have k3 : Km μ 0 = 3 := Classical.byContradiction fun q => c1 (Or.inl ⟨rfl, q⟩)
        have n1 : nbK (Km μ 0) = 1 := by rw [k3]; rfl
        rw [if_neg c1] at c
        rcases frst_cases (lineQ (Km μ) 0) (show 0 ≤ nbK (Km μ 0) + 1 by omega) with ⟨_, hq⟩ | ⟨k, k0, k1, e, _⟩
        · have q := hq 0 (by omega) (by omega)
          unfold lineQ at q
          rw [if_pos (by omega)] at q
          have e : (0 : Int) + 1 + 0 = 1 := rfl
          rw [e] at q
          refine ⟨k3, ?_, ?_⟩
          · cases hd : decide (Km μ 1 = 2)
            · rw [hd] at q; exact absurd q (by decide)
            · exact of_decide_eq_true hd
          · rw [n1] at hg; exact hg
        · rw [e, if_neg (by omega)] at c; omega
  have hv1 := hv 1 head.2.1
  have pv1 : P_X5_valueAt 145 1 μ := ⟨rfl, rr (by omega), by omega⟩
  have ref : (Vm μ 1 < 2 ∨ 8 < Vm μ 1) → P_X5_startAt 145 1 μ ∧ P_X5_refuse 145 2 (F_X5_startAt 145 1 μ) μ ∧ ∀ (μ1 : Mem) (rv2 : Int), Q_X5_refuse 145 2 (F_X5_startAt 145 1 μ) μ μ1 rv2 → (0 ≤ rv2 ∧ rv2 ≤ 1) ∧ R μ1 (some (kI rv2)) := by
    intro c
    refine ⟨⟨rfl, rr (by omega), by omega⟩, ⟨rfl, rr (by omega), ?_⟩, fun m r q => ?_⟩
    · show r32 (Sm μ 1)
      exact rr (by omega)
    · have h := lr_ref (v := begV 2) q (fun _ _ => rfl) (show (2 : Int) ≠ 0 by omega)
      refine ⟨h.1, hR m r ⟨h.1, ?_, fun q1 => ?_⟩⟩
      · rw [if_pos c]; exact h.2
      · have := q.1; omega
  refine vc_X5_takeLines_0 ?_
  have ev : F_X5_valueAt 145 1 μ = Vm μ 1 := rfl
  rw [ev]
  refine ⟨pv1, rr (by omega), fun c => ref (Or.inl c), fun c => ⟨rr (by omega), fun c2 => ⟨t_135, fun m4 q4 => vc_X5_takeLines_33 ?_⟩, fun c2 => ref (Or.inr (by omega))⟩⟩
  unfold Q_X5_takeLines at hR
  rw [if_neg (show ¬ (Vm μ 1 < 2 ∨ 8 < Vm μ 1) by omega)] at hR
  generalize hres : linesV (Km μ) (Sm μ) (Vm μ) 502 3 0 (begV (Vm μ 1)) = res at hR
  have loop : ∀ f1 : Nat, ∀ (f2 : Nat) (p ln : Int) (m : Mem), 3 ≤ p → p ≤ 600 → 502 ≤ p + f1 → 502 ≤ p + f2 → gramN (Km μ) f2 p < 0 → (0 ≤ ln ∧ ln ≤ 40) → (∀ y : Int, (y < 135 ∨ 144 < y) → m y = μ y) → RdOk (tv m 135) → linesV (Km μ) (Sm μ) (Vm μ) f1 p ln (tv m 135) = res → V_X5_takeLines R 38 [(0, kR 145), (1, kR 135), (3, kI p), (4, kI ln)] m := by
    intro f1
    induction f1 with
    | zero =>
      intro f2 p ln m p3 p6 hp1 hp2 hgr hln hf hok hl
      have e3 : m 145 3 = μ 145 3 := by rw [hf 145 (by omega)]
      have hfr := rd_frame hf
      have hk : Km μ p = 0 := by unfold Km; rw [if_neg (by omega)]
      have ek : F_X5_kindAt 145 p m = Km μ p := by
        show Km m p = _
        rw [hfr.1]
      have pk : P_X5_kindAt 145 p m := ⟨rfl, rr (by omega), by omega⟩
      have rk : r32 (Km μ p) := rr (by omega)
      have done : Km μ p = 0 → R m (some (kI 1)) := fun _ => by
        refine hR m 1 ⟨by omega, ?_, fun _ => hok⟩
        rw [← hl]
        exact ⟨fun _ => ⟨rfl, rfl, hf⟩, fun q => absurd rfl q⟩
      refine vc_X5_takeLines_38 ?_
      rw [ek]
      exact ⟨rr (by omega), fun _ => ⟨pk, rk, done, fun c => absurd hk c⟩, fun _ => ⟨pk, rk, fun _ => ⟨pk, rk, done, fun c => absurd hk c⟩, fun c => absurd hk c⟩⟩
    | succ f1 ih =>
      intro f2 p ln m p3 p6 hp1 hp2 hgr hln hf hok hl
      have hlv : linesV (Km μ) (Sm μ) (Vm μ) (f1 + 1) p ln (tv m 135) = if Km μ p = 0 then ((0, 0), tv m 135) else if 40 ≤ ln then ((3, Sm μ p), tv m 135) else if (lineV (Km μ) (Sm μ) (Vm μ) p (tv m 135)).1.1 ≠ 0 then lineV (Km μ) (Sm μ) (Vm μ) p (tv m 135) else linesV (Km μ) (Sm μ) (Vm μ) f1 (p + 2 + nbK (Km μ p)) (ln + 1) (lineV (Km μ) (Sm μ) (Vm μ) p (tv m 135)).2 := rfl
      rw [hlv] at hl
      have e3 : m 145 3 = μ 145 3 := by rw [hf 145 (by omega)]
      have hfr := rd_frame hf
      have kp := kb p
      have ek : F_X5_kindAt 145 p m = Km μ p := by
        show Km m p = _
        rw [hfr.1]
      have pk : P_X5_kindAt 145 p m := ⟨rfl, rr (by omega), by omega⟩
      have rk : r32 (Km μ p) := rr (by omega)
      have done : Km μ p = 0 → R m (some (kI 1)) := fun hk => by
        rw [if_pos hk] at hl
        refine hR m 1 ⟨by omega, ?_, fun _ => hok⟩
        rw [← hl]
        exact ⟨fun _ => ⟨rfl, rfl, hf⟩, fun q => absurd rfl q⟩
      refine vc_X5_takeLines_38 ?_
      rw [ek]
      refine ⟨rr (by omega), fun c40 => ⟨pk, rk, done, fun hk => ?_⟩, fun c40 => ⟨pk, rk, fun hk => ⟨pk, rk, done, fun c => absurd hk c⟩, fun hk => ?_⟩⟩
      · -- a line too many
        rw [if_neg hk, if_pos c40] at hl
        have hpt : p < μ 145 3 := Classical.byContradiction fun q => hk (by unfold Km; rw [if_neg (by omega)])
        have sp := (Km_bd hb p).2
        have es : F_X5_startAt 145 p m = Sm μ p := by
          show Sm m p = _
          rw [hfr.2.1]
        rw [es]
        refine ⟨⟨rfl, rr (by omega), by omega⟩, ⟨rfl, rr (by omega), rr (by omega)⟩, fun m16 r17 q16 => ?_⟩
        have h := lr_ref (μ := μ) (v := tv m 135) q16 hf (show (3 : Int) ≠ 0 by omega)
        have hz := q16.1
        subst hz
        refine ⟨rr (by omega), fun _ => hR m16 0 ⟨by omega, ?_, fun q1 => by omega⟩, fun c => absurd rfl c⟩
        rw [← hl]; exact h.2
      · -- a line
        rw [if_neg hk, if_neg c40] at hl
        have hpt : p < μ 145 3 := Classical.byContradiction fun q => hk (by unfold Km; rw [if_neg (by omega)])
        cases f2 with
        | zero => omega
        | succ f2 =>
          obtain ⟨g1, g2, g3⟩ := gram_at (by omega) hgr hk kp
          have nb := nbK_bd (k := Km μ p)
          refine ⟨⟨rfl, rfl, by omega, TkB_frame hb hf, ⟨t_135, hok.1⟩, hok.2.1, by rw [hfr.1]; exact g1, fun j j1 j2 => ?_⟩, fun m12 r13 q12 => ?_⟩
          · rw [hfr.1] at j2
            rw [hfr.2.2]
            have := hv _ (g2 j j1 j2)
            exact rr (by omega)
          · unfold Q_X5_takeLine at q12
            rw [hfr.1, hfr.2.1, hfr.2.2] at q12
            obtain ⟨qr, ql⟩ := q12
            by_cases c0 : (lineV (Km μ) (Sm μ) (Vm μ) p (tv m 135)).1.1 = 0
            · rw [if_neg (fun q => q c0)] at hl
              obtain ⟨x1, x2, x3⟩ := ql.1 c0
              subst x1
              have hf12 : ∀ y : Int, (y < 135 ∨ 144 < y) → m12 y = μ y := fun y hy => by rw [x3 y hy]; exact hf y hy
              have ek2 : F_X5_kindAt 145 p m12 = Km μ p := by
                show Km m12 p = _
                rw [(rd_frame hf12).1]
              rw [ek2]
              refine ⟨rr (by omega), fun _ => ⟨⟨rfl, rr (by omega), by rw [hf12 145 (by omega)]; omega⟩, rr (by omega), ?_⟩, fun q => absurd (show ¬ (1 : Int) = 0 by omega) q⟩
              unfold F_X5_numbersBehind
              have e : p + (2 + nbK (Km μ p)) = p + 2 + nbK (Km μ p) := by omega
              rw [e]
              exact ih f2 (p + 2 + nbK (Km μ p)) (ln + 1) m12 (by omega) (by omega) (by omega) (by omega) g3 (by omega) hf12 (by rw [x2]; exact RdOk_line hok c0) (by rw [x2]; exact hl)
            · rw [if_pos c0] at hl
              obtain ⟨x1, x2, x3, x4, x5⟩ := ql.2 c0
              subst x1
              refine ⟨rr (by omega), fun q => absurd rfl q, fun _ => hR m12 0 ⟨by omega, ?_, fun q => by omega⟩⟩
              rw [← hl]
              exact ⟨fun q => absurd q c0, fun _ => ⟨rfl, x2, x3, fun f h4 h5 => by rw [x4 f h4 h5, hf 145 (by omega)], fun y hy => by rw [x5 y hy]; exact hf y (by omega)⟩⟩
  refine loop 502 501 3 0 m4 (by omega) (by omega) (by omega) (by omega) head.2.2 (by omega) (fun y hy => q4.2 y (by omega)) (by rw [q4.1]; exact RdOk_beg (by omega)) (by rw [q4.1]; exact hres)
theorem ct_X5_takeLines : Ct mX5_takeLines 4 94 0 0 (nrmS S_X5_takeLines) := by
  refine ct_vm (own := RX5) (by decide +kernel) rfl ?_ ?_
  · intro as μ Q hS
    unfold S_X5_takeLines at hS
    split at hS
    · exact Nat.le_of_ble_eq_true rfl
    · exact hS.elim
  · intro as μ R hS
    unfold S_X5_takeLines at hS
    split at hS
    · exact body_X5_takeLines hS.1 hS.2
    · exact hS.elim
theorem tv_o3 {μ : Mem} {t x : Int} : tv (updm μ t 3 x) t = tv μ t := by
  funext g
  match g with
  | 0 => simp (disch := omega) only [tv, ru_ne, ru_eq, r1_ne]
  | 1 => simp (disch := omega) only [tv, ru_ne, ru_eq, r1_ne]
  | 2 => simp (disch := omega) only [tv, ru_ne, ru_eq, r1_ne]
  | 3 => simp (disch := omega) only [tv, ru_ne, ru_eq, r1_ne]
  | 4 => simp (disch := omega) only [tv, ru_ne, ru_eq, r1_ne]
  | 5 => simp (disch := omega) only [tv, ru_ne, ru_eq, r1_ne]
  | 6 => simp (disch := omega) only [tv, ru_ne, ru_eq, r1_ne]
  | 7 => simp (disch := omega) only [tv, ru_ne, ru_eq, r1_ne]
  | 8 => simp (disch := omega) only [tv, ru_ne, ru_eq, r1_ne]
  | 9 => simp (disch := omega) only [tv, ru_ne, ru_eq, r1_ne]
  | 10 => simp (disch := omega) only [tv, ru_ne, ru_eq, r1_ne]
  | 11 => simp (disch := omega) only [tv, ru_ne, ru_eq, r1_ne]
  | 12 => simp (disch := omega) only [tv, ru_ne, ru_eq, r1_ne]
  | g + 13 => simp (disch := omega) only [tv, ru_ne, ru_eq, r1_ne]
theorem tv_o4 {μ : Mem} {t x : Int} : tv (updm μ t 4 x) t = tv μ t := by
  funext g
  match g with
  | 0 => simp (disch := omega) only [tv, ru_ne, ru_eq, r1_ne]
  | 1 => simp (disch := omega) only [tv, ru_ne, ru_eq, r1_ne]
  | 2 => simp (disch := omega) only [tv, ru_ne, ru_eq, r1_ne]
  | 3 => simp (disch := omega) only [tv, ru_ne, ru_eq, r1_ne]
  | 4 => simp (disch := omega) only [tv, ru_ne, ru_eq, r1_ne]
  | 5 => simp (disch := omega) only [tv, ru_ne, ru_eq, r1_ne]
  | 6 => simp (disch := omega) only [tv, ru_ne, ru_eq, r1_ne]
  | 7 => simp (disch := omega) only [tv, ru_ne, ru_eq, r1_ne]
  | 8 => simp (disch := omega) only [tv, ru_ne, ru_eq, r1_ne]
  | 9 => simp (disch := omega) only [tv, ru_ne, ru_eq, r1_ne]
  | 10 => simp (disch := omega) only [tv, ru_ne, ru_eq, r1_ne]
  | 11 => simp (disch := omega) only [tv, ru_ne, ru_eq, r1_ne]
  | 12 => simp (disch := omega) only [tv, ru_ne, ru_eq, r1_ne]
  | g + 13 => simp (disch := omega) only [tv, ru_ne, ru_eq, r1_ne]
theorem tv_w {μ m : Mem} {t : Int} (h : ∀ z : Int, z ≠ t + 2 → m z = μ z) : tv m t = tv μ t := by
  unfold tv
  rw [h t (by omega), h (t + 1) (by omega), h (t + 3) (by omega), h (t + 4) (by omega), h (t + 5) (by omega), h (t + 6) (by omega), h (t + 7) (by omega), h (t + 8) (by omega), h (t + 9) (by omega)]
theorem allV_congr {q q' : Int → Bool} {n : Int} (h : ∀ i, 0 ≤ i → i < n → q i = q' i) : allV q n = allV q' n := fold_congr fun y i i0 i1 => by rw [h i i0 i1]
def P_X5_isWhole (o d n : Int) (μ : Mem) : Prop := o = 145 ∧ d = 135 ∧ r32 n ∧ RdOk (tv μ 135)
def Q_X5_isWhole (_ _ n : Int) (μ μ' : Mem) (r : Int) : Prop := (0 ≤ r ∧ r ≤ 1) ∧ LR μ μ' r (endV (tv μ 135) n) ∧ (r = 1 → TR μ' 135)
def S_X5_isWhole : S0t := fun as μ Q => match as with
  | [(2, x0), (2, x1), (0, x2)] => P_X5_isWhole x0 x1 x2 μ ∧ ∀ (μ' : Mem) (r : Int), Q_X5_isWhole x0 x1 x2 μ μ' r → Q μ' (some (kI r))
  | _ => False
theorem mono_X5_isWhole : Mono S_X5_isWhole := by
  intro as μ Q Q' h hS
  unfold S_X5_isWhole at hS ⊢
  split at hS
  · exact ⟨hS.1, fun μ' r q => h _ _ (hS.2 _ _ q)⟩
  · exact hS.elim
def iX5_isWhole : Inf := (kX5_isWhole, fTX5, pTX5, cTX5, lTX5, sTX5, [(169, 0, 0, 7, S_X7_countCellars), (172, 0, 0, 7, S_X7_findWays), (178, 0, 0, 7, S_X7_isJoined), (181, 0, 0, 7, S_X7_isCrowded), (114, 0, 2, 5, S_X5_refuse)])
theorem ok_X5_isWhole : infOK iX5_isWhole mX5_isWhole RX5 3 66 := ⟨kkX5_isWhole, fTX5_ok, pTX5_ok _, cTX5_ok, lTX5_ok, sTX5_ok, c_cons ⟨mX7_countCellars, 0, 0, ct_X7_countCellars, mmX7_countCellars, vvX7_countCellars, lkX5_169, ⟨by decide, by decide⟩, ⟨_, _, rfl⟩, by decide, mono_X7_countCellars⟩ (c_cons ⟨mX7_findWays, 0, 0, ct_X7_findWays, mmX7_findWays, vvX7_findWays, lkX5_172, ⟨by decide, by decide⟩, ⟨_, _, rfl⟩, by decide, mono_X7_findWays⟩ (c_cons ⟨mX7_isJoined, 0, 0, ct_X7_isJoined, mmX7_isJoined, vvX7_isJoined, lkX5_178, ⟨by decide, by decide⟩, ⟨_, _, rfl⟩, by decide, mono_X7_isJoined⟩ (c_cons ⟨mX7_isCrowded, 2, 45, ct_X7_isCrowded, mmX7_isCrowded, vvX7_isCrowded, lkX5_181, ⟨by decide, by decide⟩, ⟨_, _, rfl⟩, by decide, mono_X7_isCrowded⟩ (c_cons ⟨mX5_refuse, 0, 0, ct_X5_refuse, mmX5_refuse, vvX5_refuse, lkX5_114, ⟨by decide, by decide⟩, ⟨_, _, rfl⟩, by decide, mono_X5_refuse⟩ (c_nil)))))⟩
theorem mt_X5_isWhole : mtOK [] RX5 3 66 := mt_nil
abbrev V_X5_isWhole (R : Mem → Option AV → Prop) (pc : Nat) (lc : List (Nat × AV)) (μ : Mem) : Prop := VM mX5_isWhole RX5 3 66 R pc lc [] μ
set_option maxRecDepth 20000 in
theorem vc_X5_isWhole_0 {R : Mem → Option AV → Prop} {n : Int} {μ : Mem} (H : P_X7_countCellars 135 μ ∧ V_X5_isWhole R 4 [(0, kR 145), (1, kR 135), (2, kI n)] (M_X7_countCellars 135 μ)) : V_X5_isWhole R 0 [(0, kR 145), (1, kR 135), (2, kI n)] μ := by
  refine vm_step2 mt_X5_isWhole ok_X5_isWhole [(4, [0, 1, 2]), (8, [0, 1, 2])] 1000 ?_
  show isC 135 7 ∧ P_X7_countCellars 135 μ ∧ V_X5_isWhole R 4 [(0, kR 145), (1, kR 135), (2, kI n)] (M_X7_countCellars 135 μ)
  exact ⟨c_135, H.1, H.2⟩
set_option maxRecDepth 20000 in
theorem vc_X5_isWhole_4 {R : Mem → Option AV → Prop} {n : Int} {μ : Mem} (H : P_X7_findWays 135 μ ∧ (∀ (μ1 : Mem), Q_X7_findWays 135 μ μ1 → V_X5_isWhole R 8 [(0, kR 145), (1, kR 135), (2, kI n)] μ1)) : V_X5_isWhole R 4 [(0, kR 145), (1, kR 135), (2, kI n)] μ := by
  refine vm_step2 mt_X5_isWhole ok_X5_isWhole [(4, [0, 1, 2]), (8, [0, 1, 2])] 1000 ?_
  show isC 135 7 ∧ P_X7_findWays 135 μ ∧ (∀ (μ1 : Mem), Q_X7_findWays 135 μ μ1 → V_X5_isWhole R 8 [(0, kR 145), (1, kR 135), (2, kI n)] μ1)
  exact ⟨c_135, H.1, fun μ1 hq3 => (H.2 μ1 hq3)⟩
set_option maxRecDepth 20000 in
theorem vc_X5_isWhole_8 {R : Mem → Option AV → Prop} {n : Int} {μ : Mem} (H : r32 (μ 135 3) ∧ ((¬ (μ 135 3) = 0) → P_X7_isJoined 135 μ ∧ r32 (F_X7_isJoined 135 μ) ∧ ((¬ (F_X7_isJoined 135 μ) = 0) → P_X7_isCrowded 135 μ ∧ r32 (F_X7_isCrowded 135 μ) ∧ (((F_X7_isCrowded 135 μ) = 0) → R μ (some (kI 1))) ∧ (¬ ((F_X7_isCrowded 135 μ) = 0) → P_X5_refuse 145 6 n μ ∧ (∀ (μ4 : Mem) (rv5 : Int), Q_X5_refuse 145 6 n μ μ4 rv5 → r32 rv5 ∧ ((rv5 = 0) → R μ4 (some (kI 0))) ∧ (¬ (rv5 = 0) → R μ4 (some (kI 1)))))) ∧ (¬ (¬ (F_X7_isJoined 135 μ) = 0) → P_X5_refuse 145 5 n μ ∧ (∀ (μ9 : Mem) (rv10 : Int), Q_X5_refuse 145 5 n μ μ9 rv10 → (0 ≤ rv10 ∧ rv10 ≤ 1) ∧ R μ9 (some (kI rv10))))) ∧ (¬ (¬ (μ 135 3) = 0) → P_X5_refuse 145 4 n μ ∧ (∀ (μ13 : Mem) (rv14 : Int), Q_X5_refuse 145 4 n μ μ13 rv14 → (0 ≤ rv14 ∧ rv14 ≤ 1) ∧ R μ13 (some (kI rv14))))) : V_X5_isWhole R 8 [(0, kR 145), (1, kR 135), (2, kI n)] μ := by
  refine vm_step2 mt_X5_isWhole ok_X5_isWhole [(4, [0, 1, 2]), (8, [0, 1, 2])] 1000 ?_
  show isC 135 7 ∧ r32 (μ 135 3) ∧ ((¬ (μ 135 3) = 0) → isC 135 7 ∧ P_X7_isJoined 135 μ ∧ r32 (F_X7_isJoined 135 μ) ∧ ((¬ (F_X7_isJoined 135 μ) = 0) → isC 135 7 ∧ P_X7_isCrowded 135 μ ∧ r32 (F_X7_isCrowded 135 μ) ∧ (((F_X7_isCrowded 135 μ) = 0) → (0 ≤ (1 : Int) ∧ (1 : Int) ≤ 1) ∧ R μ (some (kI 1))) ∧ (¬ ((F_X7_isCrowded 135 μ) = 0) → isC 145 5 ∧ P_X5_refuse 145 6 n μ ∧ (∀ (μ4 : Mem) (rv5 : Int), Q_X5_refuse 145 6 n μ μ4 rv5 → r32 rv5 ∧ ((rv5 = 0) → (0 ≤ (0 : Int) ∧ (0 : Int) ≤ 1) ∧ R μ4 (some (kI 0))) ∧ (¬ (rv5 = 0) → (0 ≤ (1 : Int) ∧ (1 : Int) ≤ 1) ∧ R μ4 (some (kI 1)))))) ∧ (¬ (¬ (F_X7_isJoined 135 μ) = 0) → isC 145 5 ∧ P_X5_refuse 145 5 n μ ∧ (∀ (μ9 : Mem) (rv10 : Int), Q_X5_refuse 145 5 n μ μ9 rv10 → (0 ≤ rv10 ∧ rv10 ≤ 1) ∧ R μ9 (some (kI rv10))))) ∧ (¬ (¬ (μ 135 3) = 0) → isC 145 5 ∧ P_X5_refuse 145 4 n μ ∧ (∀ (μ13 : Mem) (rv14 : Int), Q_X5_refuse 145 4 n μ μ13 rv14 → (0 ≤ rv14 ∧ rv14 ≤ 1) ∧ R μ13 (some (kI rv14))))
  exact ⟨c_135, ⟨H.1, fun hc16 => ⟨c_135, (H.2.1 hc16).1, ⟨(H.2.1 hc16).2.1, fun hc12 => ⟨c_135, ((H.2.1 hc16).2.2.1 hc12).1, ⟨((H.2.1 hc16).2.2.1 hc12).2.1, fun hc8 => ⟨⟨by omega, by omega⟩, (((H.2.1 hc16).2.2.1 hc12).2.2.1 hc8)⟩, fun hc8 => ⟨c_145, (((H.2.1 hc16).2.2.1 hc12).2.2.2 hc8).1, fun μ4 rv5 hq6 => ⟨((((H.2.1 hc16).2.2.1 hc12).2.2.2 hc8).2 μ4 rv5 hq6).1, fun hc7 => ⟨⟨by omega, by omega⟩, (((((H.2.1 hc16).2.2.1 hc12).2.2.2 hc8).2 μ4 rv5 hq6).2.1 hc7)⟩, fun hc7 => ⟨⟨by omega, by omega⟩, (((((H.2.1 hc16).2.2.1 hc12).2.2.2 hc8).2 μ4 rv5 hq6).2.2 hc7)⟩⟩⟩⟩⟩, fun hc12 => ⟨c_145, ((H.2.1 hc16).2.2.2 hc12).1, fun μ9 rv10 hq11 => (((H.2.1 hc16).2.2.2 hc12).2 μ9 rv10 hq11)⟩⟩⟩, fun hc16 => ⟨c_145, (H.2.2 hc16).1, fun μ13 rv14 hq15 => ((H.2.2 hc16).2 μ13 rv14 hq15)⟩⟩⟩
theorem body_X5_isWhole {o d n : Int} {μ : Mem} {R : Mem → Option AV → Prop} (h : P_X5_isWhole o d n μ) (hR : ∀ (μ' : Mem) (r : Int), Q_X5_isWhole o d n μ μ' r → R μ' (some (kI r))) : V_X5_isWhole R 0 [(0, kR o), (1, kR d), (2, kI n)] μ := by
  obtain ⟨rfl, rfl, rn, hok⟩ := h
  have ok := hok.1
  have hp : 2 ≤ tv μ 135 0 0 ∧ tv μ 135 0 0 ≤ 8 := ok.1
  refine vc_X5_isWhole_0 ⟨⟨t_135, ok⟩, vc_X5_isWhole_4 ?_⟩
  have etv1 : tv (M_X7_countCellars 135 μ) 135 = tv μ 135 := by
    unfold M_X7_countCellars
    rw [tv_o4, tv_o3]
  have f1 : ∀ y : Int, y ≠ 135 → M_X7_countCellars 135 μ y = μ y := fun y hy => by
    unfold M_X7_countCellars
    rw [ru_ne hy, ru_ne hy]
  have x3 : M_X7_countCellars 135 μ 135 3 = sm (tv μ 135 4) (tv μ 135 0 0) := by
    unfold M_X7_countCellars
    rw [ru_eq, r1_ne (by omega), ru_eq, r1_eq]
  have x4 : M_X7_countCellars 135 μ 135 4 = cellV (tv μ 135) := by
    unfold M_X7_countCellars
    rw [ru_eq, r1_eq]
  generalize M_X7_countCellars 135 μ = m1 at etv1 f1 x3 x4
  refine ⟨⟨t_135, by rw [etv1]; exact ok⟩, fun m2 q2 => vc_X5_isWhole_8 ?_⟩
  unfold Q_X7_findWays at q2
  rw [etv1] at q2
  have etv2 : tv m2 135 = tv μ 135 := by rw [tv_w q2.2, etv1]
  have f2 : ∀ y : Int, (y < 135 ∨ 144 < y) → m2 y = μ y := fun y hy => by rw [q2.2 y (by omega), f1 y (by omega)]
  have e135 : m2 135 = m1 135 := q2.2 135 (by omega)
  have sb := sm_bd (f := tv μ 135 4) (n := tv μ 135 0 0) (c := 0) (d := 99) (fun a a0 a1 => (ok.2.2.2.1 a a0 (by omega)).1) (by omega)
  have w0 : ∀ a : Int, 0 ≤ a → a < tv μ 135 0 0 → m2 (135 + 2) a = wayV (tv μ 135) 0 a := fun a a0 a1 => by
    have h := q2.1 0 a (Int.le_refl _) (by omega) a0 a1
    have e : 8 * (0 : Int) + a = a := by omega
    rw [e] at h
    exact h
  have wb : ∀ a : Int, 0 ≤ a → a < tv μ 135 0 0 → 0 ≤ wayV (tv μ 135) 0 a ∧ wayV (tv μ 135) 0 a ≤ 1000000 := fun a a0 a1 => by
    have h1 := (way_net ok 0 a (Int.le_refl _) (by omega) a0 a1).1
    have h2 : wayV (tv μ 135) 0 a ≤ fwI 1000000 (tv μ 135 7) 0 a := fw_le 0 a (by omega)
    refine ⟨h1, Int.le_trans h2 ?_⟩
    unfold fwI
    have := ok.2.2.2.2.2.1 (8 * 0 + a) (by omega) (by omega)
    split
    · omega
    · split
      · omega
      · omega
  have hpe : tv m2 135 0 0 = m2 135 1 := rfl
  rw [etv2] at hpe
  unfold Q_X5_isWhole endV at hR
  have ref : ∀ k : Int, k ≠ 0 → r32 k → (if sm (tv μ 135 4) (tv μ 135 0 0) = 0 then (((4 : Int), n), tv μ 135) else if ¬ (allV (fun a => decide (wayV (tv μ 135) 0 a < 1000000)) (tv μ 135 0 0) = true) then ((5, n), tv μ 135) else if ¬ (allV (fun a => decide (lanesV (tv μ 135) a * tv μ 135 3 0 ≤ 12)) (tv μ 135 0 0) = true) then ((6, n), tv μ 135) else ((0, 0), tv μ 135)) = ((k, n), tv μ 135) → P_X5_refuse 145 k n m2 ∧ ∀ (μ4 : Mem) (rv5 : Int), Q_X5_refuse 145 k n m2 μ4 rv5 → (rv5 = 0 ∧ (0 ≤ rv5 ∧ rv5 ≤ 1)) ∧ R μ4 (some (kI rv5)) := by
    intro k hk rk he
    rw [he] at hR
    refine ⟨⟨rfl, rk, rn⟩, fun m r q => ?_⟩
    have h := lr_ref (μ := μ) (v := tv μ 135) q f2 hk
    exact ⟨⟨q.1, h.1⟩, hR m r ⟨h.1, h.2, fun q1 => by have := q.1; omega⟩⟩
  rw [e135, x3]
  refine ⟨rr (by omega), fun c => ?_, fun c => ?_⟩
  · have hj : F_X7_isJoined 135 m2 = if allV (fun a => decide (wayV (tv μ 135) 0 a < 1000000)) (tv μ 135 0 0) = true then 1 else 0 := by
      unfold F_X7_isJoined
      rw [← hpe, allV_congr (fun i i0 i1 => by rw [w0 i i0 i1])]
    have hc : F_X7_isCrowded 135 m2 = if allV (fun a => decide (lanesV (tv μ 135) a * tv μ 135 3 0 ≤ 12)) (tv μ 135 0 0) = true then 0 else 1 := by
      unfold F_X7_isCrowded
      rw [etv2]
    rw [hj, hc]
    refine ⟨⟨t_135, by omega, fun a a0 a1 => ?_⟩, ?_⟩
    · rw [← hpe] at a1
      rw [w0 a a0 a1]
      have := wb a a0 a1
      exact rr (by omega)
    by_cases c5 : allV (fun a => decide (wayV (tv μ 135) 0 a < 1000000)) (tv μ 135 0 0) = true
    · rw [if_pos c5]
      refine ⟨rr (by omega), fun _ => ⟨⟨t_135, by rw [etv2]; exact ok⟩, ?_⟩, fun q => absurd (show ¬ (1 : Int) = 0 by omega) q⟩
      by_cases c6 : allV (fun a => decide (lanesV (tv μ 135) a * tv μ 135 3 0 ≤ 12)) (tv μ 135 0 0) = true
      · rw [if_pos c6]
        rw [if_neg c, if_neg (fun q => q c5), if_neg (fun q => q c6)] at hR
        have jn : joined (tv μ 135) := fun a a0 a1 => of_decide_eq_true ((allV_ok (by omega)).mp c5 a a0 a1)
        refine ⟨rr (by omega), fun _ => hR m2 1 ⟨by omega, ⟨fun _ => ⟨rfl, etv2, f2⟩, fun q => absurd rfl q⟩, fun _ => ?_⟩, fun q => absurd rfl q⟩
        refine ⟨⟨t_135, by rw [etv2]; exact ok⟩, ?_, by rw [etv2]; exact jn, ?_, ?_, ?_⟩
        · unfold WY
          rw [etv2]
          exact fun a b a0 a1 b0 b1 => ⟨q2.1 a b a0 a1 b0 b1, way_bd ok jn a0 a1 b0 b1⟩
        · rw [etv2]
          exact fun a a0 a1 => of_decide_eq_true ((allV_ok (by omega)).mp c6 a a0 a1)
        · rw [etv2, e135]; exact x3
        · rw [etv2, e135]; exact x4
      · rw [if_neg c6]
        obtain ⟨p1, p2⟩ := ref 6 (by omega) (rr (by omega)) (by rw [if_neg c, if_neg (fun q => q c5), if_pos c6])
        refine ⟨rr (by omega), fun q => absurd q (by omega), fun _ => ⟨p1, fun m r q => ?_⟩⟩
        have h := p2 m r q
        obtain ⟨⟨h0, h1⟩, h2⟩ := h
        subst h0
        exact ⟨rr (by omega), fun _ => h2, fun q => absurd rfl q⟩
    · rw [if_neg c5]
      obtain ⟨p1, p2⟩ := ref 5 (by omega) (rr (by omega)) (by rw [if_neg c, if_pos c5])
      exact ⟨rr (by omega), fun q => absurd rfl q, fun _ => ⟨p1, fun m r q => ⟨(p2 m r q).1.2, (p2 m r q).2⟩⟩⟩
  · obtain ⟨p1, p2⟩ := ref 4 (by omega) (rr (by omega)) (by rw [if_pos (Classical.byContradiction c)])
    exact ⟨p1, fun m r q => ⟨(p2 m r q).1.2, (p2 m r q).2⟩⟩
theorem ct_X5_isWhole : Ct mX5_isWhole 3 66 0 0 (nrmS S_X5_isWhole) := by
  refine ct_vm (own := RX5) (by decide +kernel) rfl ?_ ?_
  · intro as μ Q hS
    unfold S_X5_isWhole at hS
    split at hS
    · exact Nat.le_of_ble_eq_true rfl
    · exact hS.elim
  · intro as μ R hS
    unfold S_X5_isWhole at hS
    split at hS
    · exact body_X5_isWhole hS.1 hS.2
    · exact hS.elim
/-! the same tokens, told otherwise where nobody looks -/
def SameT (K S V K' S' V' : Int → Int) (nt : Int) : Prop := 0 ≤ nt ∧ (∀ i : Int, 0 ≤ i → K' i = K i ∧ (K i ≠ 0 ↔ i < nt) ∧ (0 ≤ K i ∧ K i ≤ 10)) ∧ (∀ i : Int, 0 ≤ i → i ≤ nt → S' i = S i) ∧ ∀ i : Int, 0 ≤ i → K i = 2 → V' i = V i
theorem lineE_congr {K K' : Int → Int} {p : Int} (p0 : 0 ≤ p) (h : ∀ i : Int, 0 ≤ i → K' i = K i) : lineE K' p = lineE K p := by
  have nb := nbK_bd (k := K p)
  have e : frst (lineQ K' p) (nbK (K p) + 1) = frst (lineQ K p) (nbK (K p) + 1) := fold_congr fun y i i0 i1 => by
    unfold lineQ
    rw [h p p0, h (p + 1 + i) (by omega)]
  unfold lineE
  rw [h p p0, e]
theorem gram_congr {K K' : Int → Int} (h : ∀ i : Int, 0 ≤ i → K' i = K i) : ∀ (f : Nat) (p : Int), 0 ≤ p → gramN K' f p = gramN K f p
  | 0, _, _ => rfl
  | f + 1, p, p0 => by
    have nb := nbK_bd (k := K p)
    have e1 : gramN K' (f + 1) p = if 0 < p ∧ K' p = 0 then -1 else if 0 ≤ lineE K' p then lineE K' p else gramN K' f (p + 2 + nbK (K' p)) := rfl
    have e2 : gramN K (f + 1) p = if 0 < p ∧ K p = 0 then -1 else if 0 ≤ lineE K p then lineE K p else gramN K f (p + 2 + nbK (K p)) := rfl
    rw [e1, e2, h p p0, lineE_congr p0 h, gram_congr h f _ (by omega)]
/-- where the first fault of form lies -/
theorem lineE_le {K : Int → Int} {nt p : Int} (p0 : 0 ≤ p) (hp : p ≤ nt) (hK : ∀ i : Int, 0 ≤ i → (K i ≠ 0 ↔ i < nt)) : lineE K p ≤ nt ∧ (lineE K p < 0 → p + 2 + nbK (K p) ≤ nt) := by
  have nb := nbK_bd (k := K p)
  unfold lineE
  by_cases c1 : (p = 0 ∧ K p ≠ 3) ∨ (p ≠ 0 ∧ K p = 3) ∨ nbK (K p) = 0
  · rw [if_pos c1]; exact ⟨hp, fun c => by omega⟩
  · rw [if_neg c1]
    have kn : nbK (K p) ≠ 0 := fun q => c1 (Or.inr (Or.inr q))
    have kp : p < nt := by
      refine (hK p p0).mp (fun q => kn ?_)
      rw [q]; rfl
    have step : ∀ j : Int, 0 ≤ j → j ≤ nbK (K p) + 1 → (∀ k : Int, 0 ≤ k → k < j → lineQ K p k = false) → p + j < nt := by
      intro j j0 j1 hq
      by_cases e : j = 0
      · omega
      · have q := hq (j - 1) (by omega) (by omega)
        unfold lineQ at q
        have e2 : p + 1 + (j - 1) = p + j := by omega
        rw [e2] at q
        refine (hK (p + j) (by omega)).mp (fun q0 => ?_)
        rw [q0] at q
        by_cases c : j - 1 < nbK (K p)
        · rw [if_pos c] at q; exact absurd q (by decide)
        · rw [if_neg c] at q; exact absurd q (by decide)
    rcases frst_cases (lineQ K p) (show 0 ≤ nbK (K p) + 1 by omega) with ⟨e, hq⟩ | ⟨k, k0, k1, e, _, hq⟩
    · rw [e, if_pos (by omega)]
      have := step (nbK (K p) + 1) (by omega) (Int.le_refl _) hq
      exact ⟨by omega, fun _ => by omega⟩
    · rw [e, if_neg (by omega)]
      have := step k k0 (by omega) hq
      exact ⟨by omega, fun c => by omega⟩
theorem gram_le {K : Int → Int} {nt : Int} (h0 : 0 ≤ nt) (hK : ∀ i : Int, 0 ≤ i → (K i ≠ 0 ↔ i < nt)) : ∀ (f : Nat) (p : Int), 0 ≤ p → p ≤ nt → gramN K f p ≤ nt
  | 0, _, _, _ => by show (-1 : Int) ≤ nt; omega
  | f + 1, p, p0, hp => by
    have nb := nbK_bd (k := K p)
    have e2 : gramN K (f + 1) p = if 0 < p ∧ K p = 0 then -1 else if 0 ≤ lineE K p then lineE K p else gramN K f (p + 2 + nbK (K p)) := rfl
    have hl := lineE_le p0 hp hK
    rw [e2]
    split
    · omega
    · split
      · exact hl.1
      · exact gram_le h0 hK f _ (by omega) (hl.2 (by omega))
theorem line_congr {K S V K' S' V' : Int → Int} {nt p : Int} (h : SameT K S V K' S' V' nt) (p0 : 0 ≤ p) (hk : K p ≠ 0) (h4 : 4 ≤ K p ∧ K p ≤ 9) (h2 : ∀ j : Int, 1 ≤ j → j ≤ nbK (K p) → K (p + j) = 2) (v : TV) : lineV K' S' V' p v = lineV K S V p v := by
  obtain ⟨n0, hK, hS, hV⟩ := h
  have hpn := (hK p p0).2.1.mp hk
  have sj : ∀ j : Int, 1 ≤ j → j ≤ nbK (K p) → S' (p + j) = S (p + j) ∧ V' (p + j) = V (p + j) := fun j j0 j1 => by
    have q := h2 j j0 j1
    have := (hK (p + j) (by omega)).2.1.mp (by rw [q]; decide)
    exact ⟨hS _ (by omega) (by omega), hV _ (by omega) q⟩
  have sp := hS p p0 (by omega)
  have s1 : 1 ≤ nbK (K p) → S' (p + 1) = S (p + 1) ∧ V' (p + 1) = V (p + 1) := fun c => sj 1 (by omega) c
  have s2 : 2 ≤ nbK (K p) → S' (p + 2) = S (p + 2) ∧ V' (p + 2) = V (p + 2) := fun c => sj 2 (by omega) c
  have s3 : 3 ≤ nbK (K p) → S' (p + 3) = S (p + 3) ∧ V' (p + 3) = V (p + 3) := fun c => sj 3 (by omega) c
  unfold lineV
  rw [(hK p p0).1]
  by_cases c4 : K p = 4
  · rw [if_pos c4, if_pos c4]
    have n3 : nbK (K p) = 3 := by rw [c4]; rfl
    unfold lanV
    rw [sp, (s1 (by omega)).1, (s1 (by omega)).2, (s2 (by omega)).1, (s2 (by omega)).2, (s3 (by omega)).1, (s3 (by omega)).2]
  rw [if_neg c4, if_neg c4]
  by_cases c5 : K p = 5
  · rw [if_pos c5, if_pos c5]
    have n3 : nbK (K p) = 2 := by rw [c5]; rfl
    unfold plcV
    rw [(s1 (by omega)).1, (s1 (by omega)).2, (s2 (by omega)).1, (s2 (by omega)).2]
  rw [if_neg c5, if_neg c5]
  by_cases c6 : K p = 6
  · rw [if_pos c6, if_pos c6]
    have n3 : nbK (K p) = 2 := by rw [c6]; rfl
    unfold plcV
    rw [(s1 (by omega)).1, (s1 (by omega)).2, (s2 (by omega)).1, (s2 (by omega)).2]
  rw [if_neg c6, if_neg c6]
  by_cases c7 : K p = 7
  · rw [if_pos c7, if_pos c7]
    have n3 : nbK (K p) = 2 := by rw [c7]; rfl
    unfold plcV
    rw [(s1 (by omega)).1, (s1 (by omega)).2, (s2 (by omega)).1, (s2 (by omega)).2]
  rw [if_neg c7, if_neg c7]
  by_cases c8 : K p = 8
  · rw [if_pos c8, if_pos c8]
    have n3 : nbK (K p) = 1 := by rw [c8]; rfl
    unfold onlV
    rw [(s1 (by omega)).1, (s1 (by omega)).2]
  · rw [if_neg c8, if_neg c8]
    have c9 : K p = 9 := by omega
    have n3 : nbK (K p) = 1 := by rw [c9]; rfl
    unfold onlV
    rw [(s1 (by omega)).1, (s1 (by omega)).2]
theorem lines_congr {K S V K' S' V' : Int → Int} {nt : Int} (h : SameT K S V K' S' V' nt) : ∀ (f1 f2 : Nat) (p ln : Int) (v : TV), 3 ≤ p → nt + 2 ≤ p + f2 → gramN K f2 p < 0 → linesV K' S' V' f1 p ln v = linesV K S V f1 p ln v
  | 0, _, _, _, _, _, _, _ => rfl
  | f1 + 1, f2, p, ln, v, p3, hp, hg => by
    obtain ⟨n0, hK, hS, hV⟩ := h
    have e1 : linesV K' S' V' (f1 + 1) p ln v = if K' p = 0 then ((0, 0), v) else if 40 ≤ ln then ((3, S' p), v) else if (lineV K' S' V' p v).1.1 ≠ 0 then lineV K' S' V' p v else linesV K' S' V' f1 (p + 2 + nbK (K' p)) (ln + 1) (lineV K' S' V' p v).2 := rfl
    have e2 : linesV K S V (f1 + 1) p ln v = if K p = 0 then ((0, 0), v) else if 40 ≤ ln then ((3, S p), v) else if (lineV K S V p v).1.1 ≠ 0 then lineV K S V p v else linesV K S V f1 (p + 2 + nbK (K p)) (ln + 1) (lineV K S V p v).2 := rfl
    rw [e1, e2, (hK p (by omega)).1]
    by_cases hk : K p = 0
    · rw [if_pos hk, if_pos hk]
    · rw [if_neg hk, if_neg hk]
      have hpn := (hK p (by omega)).2.1.mp hk
      cases f2 with
      | zero => omega
      | succ f2 =>
        obtain ⟨g1, g2, g3⟩ := gram_at (by omega) hg hk (hK p (by omega)).2.2
        have nb := nbK_bd (k := K p)
        rw [hS p (by omega) (by omega), line_congr ⟨n0, hK, hS, hV⟩ (by omega) hk g1 g2 v, lines_congr ⟨n0, hK, hS, hV⟩ f1 f2 _ _ _ (by omega) (by omega) g3]
theorem text_congr {K S V K' S' V' : Int → Int} {nt L : Int} (h : SameT K S V K' S' V' nt) (h5 : nt ≤ 500) : textV K' S' V' L = textV K S V L := by
  have hK := fun (i : Int) (i0 : 0 ≤ i) => (h.2.1 i i0).1
  have hg := gram_congr hK 502 0 (Int.le_refl _)
  have hle := gram_le h.1 (fun i i0 => (h.2.1 i i0).2.1) 502 0 (Int.le_refl _) h.1
  unfold textV
  rw [hg]
  by_cases c : 0 ≤ gramN K 502 0
  · rw [if_pos c, if_pos c, h.2.2.1 _ c hle]
  · rw [if_neg c, if_neg c]
    -- the head
    have hgg : gramN K 502 0 = if (0 : Int) < 0 ∧ K 0 = 0 then -1 else if 0 ≤ lineE K 0 then lineE K 0 else gramN K 501 (0 + 2 + nbK (K 0)) := rfl
    rw [if_neg (by omega)] at hgg
    by_cases c1 : 0 ≤ lineE K 0
    · rw [if_pos c1] at hgg; omega
    · rw [if_neg c1] at hgg
      have head : K 0 = 3 ∧ K 1 = 2 := by
        unfold lineE at c1
        by_cases c2 : ((0 : Int) = 0 ∧ K 0 ≠ 3) ∨ ((0 : Int) ≠ 0 ∧ K 0 = 3) ∨ nbK (K 0) = 0
        · rw [if_pos c2] at c1; exact absurd (Int.le_refl 0) c1
        · have k3 : K 0 = 3 := Classical.byContradiction fun q => c2 (Or.inl ⟨rfl, q⟩)
          have n1 : nbK (K 0) = 1 := by rw [k3]; rfl
          rw [if_neg c2] at c1
          rcases frst_cases (lineQ K 0) (show 0 ≤ nbK (K 0) + 1 by omega) with ⟨_, hq⟩ | ⟨k, k0, k1, e, _⟩
          · have q := hq 0 (by omega) (by omega)
            unfold lineQ at q
            rw [if_pos (by omega)] at q
            have e : (0 : Int) + 1 + 0 = 1 := rfl
            rw [e] at q
            refine ⟨k3, ?_⟩
            cases hd : decide (K 1 = 2)
            · rw [hd] at q; exact absurd q (by decide)
            · exact of_decide_eq_true hd
          · rw [e, if_neg (by omega)] at c1; omega
      have n1 : nbK (K 0) = 1 := by rw [head.1]; rfl
      have i1 : (1 : Int) < nt := (h.2.1 1 (by omega)).2.1.mp (by rw [head.2]; decide)
      have v1 := h.2.2.2 1 (by omega) head.2
      have s1 := h.2.2.1 1 (by omega) (by omega)
      have g3 : gramN K 501 3 < 0 := by
        rw [n1] at hgg
        have e : (0 : Int) + 2 + 1 = 3 := rfl
        rw [e] at hgg
        omega
      rw [v1, s1, lines_congr h 502 501 3 0 _ (by omega) (by omega) g3]
/-- the numbers' tokens -/
theorem VT_bd {tx : Int → Int} {n i : Int} (hn : 0 ≤ n) (i0 : 0 ≤ i) (h : KT tx n i = 2) : 0 ≤ VT tx n i ∧ VT tx n i ≤ 9999 := by
  unfold KT at h
  by_cases c : stT tx n i < n
  · rw [if_pos c] at h
    have he := endT_bd (tx := tx) c
    unfold VT
    generalize stT tx n i = p at *
    -- digits alone
    have hd : isDig (tx p) = true ∧ endT tx p n - p ≤ 4 := by
      unfold kindT at h
      by_cases c1 : isDig (tx p) = true
      · rw [if_pos c1] at h
        by_cases c2 : endT tx p n - p ≤ 4
        · exact ⟨c1, c2⟩
        · rw [if_neg c2] at h; omega
      · rw [if_neg c1] at h
        split at h
        · omega
        · repeat' split at h
          all_goals omega
    have hl : ¬ isLet (tx p) = true := fun q => by
      have q1 := of_decide_eq_true q
      have q2 := of_decide_eq_true hd.1
      omega
    have ee : endT tx p n = runE (fun i => isDig (tx i)) (p + 1) n := by unfold endT; rw [if_neg hl, if_pos hd.1]
    have hr := runE_bd (q := fun i => isDig (tx i)) (p := p + 1) (n := n) (by omega)
    rw [← ee] at hr
    have dg : ∀ j : Int, 0 ≤ j → j < endT tx p n - p → 48 ≤ tx (p + j) ∧ tx (p + j) ≤ 57 := fun j j0 j1 => by
      by_cases e : j = 0
      · rw [e, Int.add_zero]; exact of_decide_eq_true hd.1
      · exact of_decide_eq_true (hr.2.1 (p + j) (by omega) (by omega))
    have key : ∀ k : Int, 0 ≤ k → k ≤ endT tx p n - p → 0 ≤ fold (fun x i => x * 10 + (tx (p + i) - 48)) 0 k ∧ (k ≤ 4 → fold (fun x i => x * 10 + (tx (p + i) - 48)) 0 k < (if k = 0 then 1 else if k = 1 then 10 else if k = 2 then 100 else if k = 3 then 1000 else 10000)) := by
      intro k k0
      refine nat_ind (P := fun k => k ≤ endT tx p n - p → 0 ≤ fold (fun x i => x * 10 + (tx (p + i) - 48)) 0 k ∧ (k ≤ 4 → fold (fun x i => x * 10 + (tx (p + i) - 48)) 0 k < (if k = 0 then 1 else if k = 1 then 10 else if k = 2 then 100 else if k = 3 then 1000 else 10000))) (fun _ => ⟨Int.le_refl _, fun _ => by show (0 : Int) < 1; decide⟩) (fun j j0 ih hj => ?_) k k0
      have h1 := ih (by omega)
      have h2 := dg j j0 (by omega)
      rw [fold_s j0]
      refine ⟨by omega, fun h4 => ?_⟩
      have h3 := h1.2 (by omega)
      rcases (by omega : j = 0 ∨ j = 1 ∨ j = 2 ∨ j = 3) with e | e | e | e <;> subst e
      · rw [if_pos rfl] at h3; rw [if_neg (by omega), if_pos (by omega)]; omega
      · rw [if_neg (by omega), if_pos rfl] at h3; rw [if_neg (by omega), if_neg (by omega), if_pos (by omega)]; omega
      · rw [if_neg (by omega), if_neg (by omega), if_pos rfl] at h3; rw [if_neg (by omega), if_neg (by omega), if_neg (by omega), if_pos (by omega)]; omega
      · rw [if_neg (by omega), if_neg (by omega), if_neg (by omega), if_pos rfl] at h3; rw [if_neg (by omega), if_neg (by omega), if_neg (by omega), if_neg (by omega)]; omega
    unfold valT
    have em : max 0 (min (endT tx p n - p) 4) = endT tx p n - p := by omega
    rw [em]
    have h1 := key (endT tx p n - p) (by omega) (Int.le_refl _)
    have h2 := h1.2 hd.2
    refine ⟨h1.1, ?_⟩
    repeat' split at h2
    all_goals omega
  · rw [if_neg c] at h; omega
theorem TokR_same {μ : Mem} {tx : Int → Int} {n : Int} (hn : 0 ≤ n) (h : TokR μ tx n) : ∃ nt, nt ≤ 500 ∧ SameT (KT tx n) (stT tx n) (VT tx n) (Km μ) (Sm μ) (Vm μ) nt := by
  obtain ⟨nt, hnt, h3, hl, he, ha⟩ := h
  have kb : ∀ i : Int, 0 ≤ i → (KT tx n i ≠ 0 ↔ i < nt) ∧ (0 ≤ KT tx n i ∧ KT tx n i ≤ 10) := fun i i0 => by
    unfold KT
    by_cases c : i < nt
    · have := hl i i0 c
      have kk := kindT_bd (tx := tx) (p := stT tx n i) (q := endT tx (stT tx n i) n)
      rw [if_pos this]
      exact ⟨⟨fun _ => c, fun _ => by omega⟩, by omega⟩
    · have := stT_end hn hnt.1 (by omega : ¬ stT tx n nt < n) i (by omega)
      rw [if_neg (by omega)]
      exact ⟨⟨fun q => absurd rfl q, fun q => absurd q c⟩, by omega⟩
  refine ⟨nt, hnt.2, hnt.1, fun i i0 => ⟨?_, kb i i0⟩, fun i i0 i1 => ?_, fun i i0 hk => ?_⟩
  · unfold Km
    by_cases c : i ≤ nt
    · rw [if_pos (by omega)]; exact (ha i i0 c).1
    · rw [if_neg (by omega)]
      have q := kb i i0
      by_cases z : KT tx n i = 0
      · exact z.symm
      · have := q.1.mp z; omega
  · unfold Sm
    rw [if_pos (by omega)]; exact (ha i i0 i1).2.1
  · have c := (kb i i0).1.mp (by rw [hk]; decide)
    unfold Vm
    rw [if_pos (by omega)]; exact (ha i i0 (by omega)).2.2 c
/-- the text of the tape -/
noncomputable def readV (tx : Int → Int) (n : Int) : (Int × Int) × TV := textV (KT tx n) (stT tx n) (VT tx n) n
def P_X5_read (o z n d : Int) (μ : Mem) : Prop := o = 145 ∧ z = 2 ∧ d = 135 ∧ (0 ≤ n ∧ n ≤ 500) ∧ TapeR μ
def Q_X5_read (_ _ n _ : Int) (μ μ' : Mem) (r : Int) : Prop := (∀ y : Int, (y < 135 ∨ 148 < y) → μ' y = μ y) ∧ ((readV (μ 2) n).1.1 = 0 → r = 1 ∧ tv μ' 135 = (readV (μ 2) n).2 ∧ TR μ' 135 ∧ RdOk (tv μ' 135)) ∧ ((readV (μ 2) n).1.1 ≠ 0 → r = 0 ∧ μ' 145 4 = (readV (μ 2) n).1.1 ∧ μ' 145 5 = (readV (μ 2) n).1.2)
def S_X5_read : S0t := fun as μ Q => match as with
  | [(2, x0), (2, x1), (0, x2), (2, x3)] => P_X5_read x0 x1 x2 x3 μ ∧ ∀ (μ' : Mem) (r : Int), Q_X5_read x0 x1 x2 x3 μ μ' r → Q μ' (some (kI r))
  | _ => False
theorem mono_X5_read : Mono S_X5_read := by
  intro as μ Q Q' h hS
  unfold S_X5_read at hS ⊢
  split at hS
  · exact ⟨hS.1, fun μ' r q => h _ _ (hS.2 _ _ q)⟩
  · exact hS.elim
def iX5_read : Inf := (kX5_read, fTX5, pTX5, cTX5, lTX5, sTX5, [(34, 0, 2, 5, S_X5_cut), (38, 0, 0, 5, S_X5_isText), (42, 0, 1, 5, S_X5_takeLines), (46, 0, 2, 5, S_X5_isWhole)])
theorem ok_X5_read : infOK iX5_read mX5_read RX5 5 118 := ⟨kkX5_read, fTX5_ok, pTX5_ok _, cTX5_ok, lTX5_ok, sTX5_ok, c_cons ⟨mX5_cut, 2, 46, ct_X5_cut, mmX5_cut, vvX5_cut, lkX5_34, ⟨by decide, by decide⟩, ⟨_, _, rfl⟩, by decide, mono_X5_cut⟩ (c_cons ⟨mX5_isText, 2, 47, ct_X5_isText, mmX5_isText, vvX5_isText, lkX5_38, ⟨by decide, by decide⟩, ⟨_, _, rfl⟩, by decide, mono_X5_isText⟩ (c_cons ⟨mX5_takeLines, 4, 94, ct_X5_takeLines, mmX5_takeLines, vvX5_takeLines, lkX5_42, ⟨by decide, by decide⟩, ⟨_, _, rfl⟩, by decide, mono_X5_takeLines⟩ (c_cons ⟨mX5_isWhole, 3, 66, ct_X5_isWhole, mmX5_isWhole, vvX5_isWhole, lkX5_46, ⟨by decide, by decide⟩, ⟨_, _, rfl⟩, by decide, mono_X5_isWhole⟩ (c_nil))))⟩
theorem mt_X5_read : mtOK [(28, 0)] RX5 5 118 := mt_cons ⟨MI0, by decide, by decide, ML_X5_28, MS0, MC0⟩ (mt_nil)
abbrev V_X5_read (R : Mem → Option AV → Prop) (pc : Nat) (lc : List (Nat × AV)) (μ : Mem) : Prop := VM mX5_read RX5 5 118 R pc lc [] μ
set_option maxRecDepth 20000 in
theorem vc_X5_read_0 {R : Mem → Option AV → Prop} {n : Int} {μ : Mem} (H : V_X5_read R 5 [(0, kR 145), (1, kR 2), (2, kI n), (3, kR 135)] (updm μ 145 4 0)) : V_X5_read R 0 [(0, kR 145), (1, kR 2), (2, kI n), (3, kR 135)] μ := by
  refine vm_step2 mt_X5_read ok_X5_read [(5, [0, 1, 2, 3]), (10, [0, 1, 2, 3]), (21, [0, 2, 3])] 1000 ?_
  show isC 145 5 ∧ 0 = 0 ∧ True ∧ V_X5_read R 5 [(0, kR 145), (1, kR 2), (2, kI n), (3, kR 135)] (updm μ 145 4 0)
  exact ⟨c_145, rfl, trivial, H⟩
set_option maxRecDepth 20000 in
theorem vc_X5_read_5 {R : Mem → Option AV → Prop} {n : Int} {μ : Mem} (H : V_X5_read R 10 [(0, kR 145), (1, kR 2), (2, kI n), (3, kR 135)] (updm μ 145 5 (-1))) : V_X5_read R 5 [(0, kR 145), (1, kR 2), (2, kI n), (3, kR 135)] μ := by
  refine vm_step2 mt_X5_read ok_X5_read [(5, [0, 1, 2, 3]), (10, [0, 1, 2, 3]), (21, [0, 2, 3])] 1000 ?_
  show isC 145 5 ∧ 0 = 0 ∧ True ∧ V_X5_read R 10 [(0, kR 145), (1, kR 2), (2, kI n), (3, kR 135)] (updm μ 145 5 (-1))
  exact ⟨c_145, rfl, trivial, H⟩
set_option maxRecDepth 20000 in
theorem vc_X5_read_10 {R : Mem → Option AV → Prop} {n : Int} {μ : Mem} (H : r32 n ∧ P_X5_cut 145 2 (min n 500) μ ∧ (∀ (μ1 : Mem), Q_X5_cut 145 2 (min n 500) μ μ1 → V_X5_read R 21 [(0, kR 145), (2, kI n), (3, kR 135)] μ1)) : V_X5_read R 10 [(0, kR 145), (1, kR 2), (2, kI n), (3, kR 135)] μ := by
  refine vm_step2 mt_X5_read ok_X5_read [(5, [0, 1, 2, 3]), (10, [0, 1, 2, 3]), (21, [0, 2, 3])] 1000 ?_
  show ((0 ≤ (2 : Int) ∧ (2 : Int) < 232) ∧ (LAY (2 : Int).toNat).1 ≤ 3) ∧ (r32 n ∧ r32 (500 : Int)) ∧ isC 145 5 ∧ P_X5_cut 145 2 (min n 500) μ ∧ (∀ (μ1 : Mem), Q_X5_cut 145 2 (min n 500) μ μ1 → V_X5_read R 21 [(0, kR 145), (2, kI n), (3, kR 135)] μ1)
  exact ⟨⟨a_2.1, by decide⟩, ⟨⟨H.1, by unfold r32; omega⟩, ⟨c_145, H.2.1, fun μ1 hq3 => (H.2.2 μ1 hq3)⟩⟩⟩
set_option maxRecDepth 20000 in
theorem vc_X5_read_21 {R : Mem → Option AV → Prop} {n : Int} {μ : Mem} (H : P_X5_isText 145 μ ∧ (∀ (μ7 : Mem) (rv8 : Int), Q_X5_isText 145 μ μ7 rv8 → r32 rv8 ∧ ((rv8 = 0) → R μ7 (some (kI 0))) ∧ (¬ (rv8 = 0) → P_X5_takeLines 145 135 μ7 ∧ (∀ (μ10 : Mem) (rv11 : Int), Q_X5_takeLines 145 135 μ7 μ10 rv11 → r32 rv11 ∧ ((rv11 = 0) → R μ10 (some (kI 0))) ∧ (¬ (rv11 = 0) → P_X5_isWhole 145 135 n μ10 ∧ (∀ (μ13 : Mem) (rv14 : Int), Q_X5_isWhole 145 135 n μ10 μ13 rv14 → r32 rv14 ∧ ((rv14 = 0) → R μ13 (some (kI 0))) ∧ (¬ (rv14 = 0) → R μ13 (some (kI 1))))))))) : V_X5_read R 21 [(0, kR 145), (2, kI n), (3, kR 135)] μ := by
  refine vm_step2 mt_X5_read ok_X5_read [(5, [0, 1, 2, 3]), (10, [0, 1, 2, 3]), (21, [0, 2, 3])] 1000 ?_
  show isC 145 5 ∧ P_X5_isText 145 μ ∧ (∀ (μ7 : Mem) (rv8 : Int), Q_X5_isText 145 μ μ7 rv8 → r32 rv8 ∧ ((rv8 = 0) → (0 ≤ (0 : Int) ∧ (0 : Int) ≤ 1) ∧ R μ7 (some (kI 0))) ∧ (¬ (rv8 = 0) → isC 145 5 ∧ P_X5_takeLines 145 135 μ7 ∧ (∀ (μ10 : Mem) (rv11 : Int), Q_X5_takeLines 145 135 μ7 μ10 rv11 → r32 rv11 ∧ ((rv11 = 0) → (0 ≤ (0 : Int) ∧ (0 : Int) ≤ 1) ∧ R μ10 (some (kI 0))) ∧ (¬ (rv11 = 0) → isC 145 5 ∧ P_X5_isWhole 145 135 n μ10 ∧ (∀ (μ13 : Mem) (rv14 : Int), Q_X5_isWhole 145 135 n μ10 μ13 rv14 → r32 rv14 ∧ ((rv14 = 0) → (0 ≤ (0 : Int) ∧ (0 : Int) ≤ 1) ∧ R μ13 (some (kI 0))) ∧ (¬ (rv14 = 0) → (0 ≤ (1 : Int) ∧ (1 : Int) ≤ 1) ∧ R μ13 (some (kI 1))))))))
  exact ⟨c_145, H.1, fun μ7 rv8 hq9 => ⟨(H.2 μ7 rv8 hq9).1, fun hc18 => ⟨⟨by omega, by omega⟩, ((H.2 μ7 rv8 hq9).2.1 hc18)⟩, fun hc18 => ⟨c_145, ((H.2 μ7 rv8 hq9).2.2 hc18).1, fun μ10 rv11 hq12 => ⟨(((H.2 μ7 rv8 hq9).2.2 hc18).2 μ10 rv11 hq12).1, fun hc17 => ⟨⟨by omega, by omega⟩, ((((H.2 μ7 rv8 hq9).2.2 hc18).2 μ10 rv11 hq12).2.1 hc17)⟩, fun hc17 => ⟨c_145, ((((H.2 μ7 rv8 hq9).2.2 hc18).2 μ10 rv11 hq12).2.2 hc17).1, fun μ13 rv14 hq15 => ⟨(((((H.2 μ7 rv8 hq9).2.2 hc18).2 μ10 rv11 hq12).2.2 hc17).2 μ13 rv14 hq15).1, fun hc16 => ⟨⟨by omega, by omega⟩, ((((((H.2 μ7 rv8 hq9).2.2 hc18).2 μ10 rv11 hq12).2.2 hc17).2 μ13 rv14 hq15).2.1 hc16)⟩, fun hc16 => ⟨⟨by omega, by omega⟩, ((((((H.2 μ7 rv8 hq9).2.2 hc18).2 μ10 rv11 hq12).2.2 hc17).2 μ13 rv14 hq15).2.2 hc16)⟩⟩⟩⟩⟩⟩⟩
theorem body_X5_read {o z n d : Int} {μ : Mem} {R : Mem → Option AV → Prop} (h : P_X5_read o z n d μ) (hR : ∀ (μ' : Mem) (r : Int), Q_X5_read o z n d μ μ' r → R μ' (some (kI r))) : V_X5_read R 0 [(0, kR o), (1, kR z), (2, kI n), (3, kR d)] μ := by
  obtain ⟨rfl, rfl, rfl, hn, ht⟩ := h
  unfold Q_X5_read readV at hR
  refine vc_X5_read_0 (vc_X5_read_5 (vc_X5_read_10 ?_))
  have emin : min n 500 = n := by omega
  have f0 : ∀ y : Int, y ≠ 145 → updm (updm μ 145 4 0) 145 5 (-1) y = μ y := fun y hy => by rw [ru_ne hy, ru_ne hy]
  generalize updm (updm μ 145 4 0) 145 5 (-1) = m0 at f0
  rw [emin]
  have e2 : m0 2 = μ 2 := f0 2 (by omega)
  refine ⟨rr (by omega), ⟨rfl, rfl, hn, by unfold TapeR; rw [e2]; exact ht⟩, fun m1 q1 => vc_X5_read_21 ?_⟩
  obtain ⟨hT, hff, hf1⟩ := q1
  rw [e2] at hT
  generalize μ 2 = tx at *
  obtain ⟨nt, hnt, hs⟩ := TokR_same hn.1 hT
  have hte : textV (Km m1) (Sm m1) (Vm m1) n = textV (KT tx n) (stT tx n) (VT tx n) n := text_congr hs hnt
  rw [← hte] at hR
  have hTk : TkB m1 := by
    obtain ⟨nt, hnt, h3, hl, he, ha⟩ := hT
    refine ⟨by omega, fun i i0 i1 => ?_⟩
    have h := ha i i0 (by omega)
    rw [h.1, h.2.1]
    have sb := stT_bd (tx := tx) (n := n) (i := i) hn.1 i0
    refine ⟨?_, by omega⟩
    unfold KT
    split
    · have := kindT_bd (tx := tx) (p := stT tx n i) (q := endT tx (stT tx n i) n); omega
    · omega
  have hV : ∀ i : Int, Km m1 i = 2 → 0 ≤ Vm m1 i ∧ Vm m1 i ≤ 9999 := fun i hk => by
    have i0 : 0 ≤ i := by
      by_cases c : 0 ≤ i
      · exact c
      · unfold Km at hk; rw [if_neg (by omega)] at hk; omega
    have h1 := (hs.2.1 i i0).1
    rw [h1] at hk
    rw [hs.2.2.2 i i0 hk]
    exact VT_bd hn.1 i0 hk
  have fr1 : ∀ y : Int, (y < 135 ∨ 148 < y) → m1 y = μ y := fun y hy => by rw [hf1 y (by omega), f0 y (by omega)]
  unfold textV at hR
  refine ⟨⟨rfl, hTk⟩, fun m7 r8 q8 => ?_⟩
  by_cases cg : 0 ≤ gramN (Km m1) 502 0
  · obtain ⟨x1, x2⟩ := q8.2 cg
    subst x1
    rw [if_pos cg] at hR
    refine ⟨rr (by omega), fun _ => hR m7 0 ⟨fun y hy => by rw [x2, ru_ne (by omega), ru_ne (by omega)]; exact fr1 y hy, fun q => absurd q (show ¬ (1 : Int) = 0 by decide), fun _ => ⟨rfl, ?_, ?_⟩⟩, fun q => absurd rfl q⟩
    · rw [x2, ru_eq, r1_ne (by omega), ru_eq, r1_eq]
    · rw [x2, ru_eq, r1_eq]
  · obtain ⟨x1, x2⟩ := q8.1 (by omega)
    subst x1; subst x2
    rw [if_neg cg] at hR
    refine ⟨rr (by omega), fun q => absurd q (by omega), fun _ => ⟨⟨rfl, rfl, hTk, by omega, hV⟩, fun m10 r11 q11 => ?_⟩⟩
    obtain ⟨b11, l11, ok11⟩ := q11
    by_cases c1 : Vm m7 1 < 2 ∨ 8 < Vm m7 1
    · rw [if_pos c1] at hR l11
      obtain ⟨y1, y2, y3, y4, y5⟩ := l11.2 (show (2 : Int) ≠ 0 by decide)
      subst y1
      exact ⟨rr (by omega), fun _ => hR m10 0 ⟨fun y hy => by rw [y5 y (by omega)]; exact fr1 y hy, fun q => absurd q (show ¬ (2 : Int) = 0 by decide), fun _ => ⟨rfl, y2, y3⟩⟩, fun q => absurd rfl q⟩
    · rw [if_neg c1] at hR l11
      by_cases c2 : (linesV (Km m7) (Sm m7) (Vm m7) 502 3 0 (begV (Vm m7 1))).1.1 = 0
      · obtain ⟨y1, y2, y3⟩ := l11.1 c2
        subst y1
        rw [if_neg (fun q => q c2), ← y2] at hR
        refine ⟨rr (by omega), fun q => absurd q (by omega), fun _ => ⟨⟨rfl, rfl, rr (by omega), ok11 rfl⟩, fun m13 r14 q14 => ?_⟩⟩
        obtain ⟨b14, l14, t14⟩ := q14
        by_cases c3 : (endV (tv m10 135) n).1.1 = 0
        · obtain ⟨z1, z2, z3⟩ := l14.1 c3
          subst z1
          have hr2 : RdOk (tv m13 135) := by
            rw [z2]
            have e : (endV (tv m10 135) n).2 = tv m10 135 := by
              unfold endV
              repeat' split
              all_goals rfl
            rw [e]; exact ok11 rfl
          exact ⟨rr (by omega), fun q => absurd q (by omega), fun _ => hR m13 1 ⟨fun y hy => by rw [z3 y (by omega), y3 y (by omega)]; exact fr1 y hy, fun _ => ⟨rfl, z2, t14 rfl, hr2⟩, fun q => absurd c3 q⟩⟩
        · obtain ⟨z1, z2, z3, z4, z5⟩ := l14.2 c3
          subst z1
          exact ⟨rr (by omega), fun _ => hR m13 0 ⟨fun y hy => by rw [z5 y (by omega), y3 y (by omega)]; exact fr1 y hy, fun q => absurd q c3, fun _ => ⟨rfl, z2, z3⟩⟩, fun q => absurd rfl q⟩
      · obtain ⟨y1, y2, y3, y4, y5⟩ := l11.2 c2
        subst y1
        rw [if_pos c2] at hR
        exact ⟨rr (by omega), fun _ => hR m10 0 ⟨fun y hy => by rw [y5 y (by omega)]; exact fr1 y hy, fun q => absurd q c2, fun _ => ⟨rfl, y2, y3⟩⟩, fun q => absurd rfl q⟩
theorem ct_X5_read : Ct mX5_read 5 118 0 0 (nrmS S_X5_read) := by
  refine ct_vm (own := RX5) (by decide +kernel) rfl ?_ ?_
  · intro as μ Q hS
    unfold S_X5_read at hS
    split at hS
    · exact Nat.le_of_ble_eq_true rfl
    · exact hS.elim
  · intro as μ R hS
    unfold S_X5_read at hS
    split at hS
    · exact body_X5_read hS.1 hS.2
    · exact hS.elim
