theorem set_RV {v : TV} {m : Mem} {f : Nat} {b a x : Int} (h : RVm v m) (hf : (f = 4 ∧ b = 10) ∨ (f = 5 ∧ b = 20) ∨ (f = 6 ∧ b = 30)) (a0 : 0 ≤ a) (a1 : a < 8) : RVm (setV v f a x) (updm m 204 (b + a) x) := by
  obtain ⟨h0, h1, h2, h3, h4, h7, h8⟩ := h
  have o : ∀ j : Int, j ≠ b + a → updm m 204 (b + a) x 204 j = m 204 j := fun j hj => by rw [ru_eq, r1_ne hj]
  have oe : updm m 204 (b + a) x 204 (b + a) = x := by rw [ru_eq, r1_eq]
  have sv : ∀ g : Nat, g ≠ f → setV v f a x g = v g := fun g hg => if_neg hg
  have se : setV v f a x f = upd1 (v f) a x := if_pos rfl
  refine ⟨by rw [o 0 (by omega), sv 0 (by omega)]; exact h0, by rw [o 1 (by omega), sv 1 (by omega)]; exact h1, by rw [o 2 (by omega), sv 2 (by omega)]; exact h2, by rw [o 3 (by omega), sv 3 (by omega)]; exact h3, fun y y0 y1 => ?_, fun j j0 j1 => by rw [o (40 + j) (by omega), sv 7 (by omega)]; exact h7 j j0 j1, by rw [o 4 (by omega)]; exact h8⟩
  have hy := h4 y y0 y1
  rcases hf with ⟨rfl, rfl⟩ | ⟨rfl, rfl⟩ | ⟨rfl, rfl⟩
  · rw [se, sv 5 (by omega), sv 6 (by omega), o (20 + y) (by omega), o (30 + y) (by omega)]
    by_cases e : y = a
    · rw [e, oe, r1_eq]; rw [e] at hy; exact ⟨rfl, hy.2⟩
    · rw [o (10 + y) (by omega), r1_ne e]; exact hy
  · rw [se, sv 4 (by omega), sv 6 (by omega), o (10 + y) (by omega), o (30 + y) (by omega)]
    by_cases e : y = a
    · rw [e, oe, r1_eq]; rw [e] at hy; exact ⟨hy.1, rfl, hy.2.2⟩
    · rw [o (20 + y) (by omega), r1_ne e]; exact hy
  · rw [se, sv 4 (by omega), sv 5 (by omega), o (10 + y) (by omega), o (20 + y) (by omega)]
    by_cases e : y = a
    · rw [e, oe, r1_eq]; rw [e] at hy; exact ⟨hy.1, hy.2.1, rfl⟩
    · rw [o (30 + y) (by omega), r1_ne e]; exact hy
theorem setP_RV {v : TV} {m : Mem} {f : Nat} {b x : Int} (h : RVm v m) (hf : (f = 2 ∧ b = 2) ∨ (f = 3 ∧ b = 3)) : RVm (setP v f x) (updm m 204 b x) := by
  obtain ⟨h0, h1, h2, h3, h4, h7, h8⟩ := h
  have o : ∀ j : Int, j ≠ b → updm m 204 b x 204 j = m 204 j := fun j hj => by rw [ru_eq, r1_ne hj]
  have oe : updm m 204 b x 204 b = x := by rw [ru_eq, r1_eq]
  have sv : ∀ g : Nat, g ≠ f → setP v f x g = v g := fun g hg => if_neg hg
  have se : setP v f x f = fun _ => x := if_pos rfl
  refine ⟨by rw [o 0 (by omega), sv 0 (by omega)]; exact h0, by rw [o 1 (by omega), sv 1 (by omega)]; exact h1, ?_, ?_, fun y y0 y1 => by rw [o (10 + y) (by omega), o (20 + y) (by omega), o (30 + y) (by omega), sv 4 (by omega), sv 5 (by omega), sv 6 (by omega)]; exact h4 y y0 y1, fun j j0 j1 => by rw [o (40 + j) (by omega), sv 7 (by omega)]; exact h7 j j0 j1, by rw [o 4 (by omega)]; exact h8⟩
  · rcases hf with ⟨rfl, rfl⟩ | ⟨rfl, rfl⟩
    · rw [oe, se]
    · rw [o 2 (by omega), sv 2 (by omega)]; exact h2
  · rcases hf with ⟨rfl, rfl⟩ | ⟨rfl, rfl⟩
    · rw [o 3 (by omega), sv 3 (by omega)]; exact h3
    · rw [oe, se]
/-- a place and a number -/
theorem plc_line {tx : Int → Int} {n p lo hi a x b : Int} {f : Nat} {μ m1 m2 : Mem} (hb : PBm μ) (hr : 2 ≤ μ 204 0 ∧ μ 204 0 ≤ 8) (p0 : 0 ≤ p) (ha : AT tx n (p + 1) μ) (kp : KT tx n p ≠ 0) (w : μ 201 8 = 0) (q1 : Q_X11_numbered 201 0 (μ 204 0 - 1) μ m1 a) (q2 : Q_X11_numbered 201 lo hi m1 m2 x) (hl : lo ≤ hi) (hf : (f = 4 ∧ b = 10) ∨ (f = 5 ∧ b = 20) ∨ (f = 6 ∧ b = 30)) : LineR tx n p 2 (fun v => plcV (stT tx n) (VT tx n) p v f lo hi) μ (updm m2 204 (b + a) x) := by
  have hn : 0 ≤ n ∧ n ≤ 500 := by have := hb.2.2.2.2.1.1; rw [ha.2.1] at this; exact this
  have s1 := stT_lt (tx := tx) hn.1 p0 (kt_lt kp)
  have pz : ∀ z : Int, z ≠ 204 → updm m2 204 (b + a) x z = m2 z := fun z hz => ru_ne hz
  have fz : flM (updm m2 204 (b + a) x) = flM m2 := by unfold flM; rw [pz 202 (by omega)]
  have n1 := num_step q1 hb ha (by omega) w
  have e1 : m1 204 = μ 204 := q1.2.2.1
  have ra := (num_r q1 (by omega)).1
  by_cases k1 : KT tx n (p + 1) = 2
  rotate_left
  · obtain ⟨w1, f1, _, _⟩ := n1.1 k1
    obtain ⟨w2, f2, _, _⟩ := num_wrong q2 w1
    exact Or.inl ⟨0, by omega, by rw [show p + 1 + 0 = p + 1 by omega]; exact k1, fun j j0 j1 => by omega, by rw [pz 201 (by omega), w2], by rw [fz, f2, f1, show p + 1 + 0 = p + 1 by omega]⟩
  obtain ⟨w1, at1, c1⟩ := n1.2 k1
  rw [show p + 1 + 1 = p + 2 by omega] at at1
  have s2 := stT_lt (tx := tx) hn.1 (show 0 ≤ p + 1 by omega) (kt_lt (by omega))
  rw [show p + 1 + 1 = p + 2 by omega] at s2
  have n2 := num_step q2 q1.1 at1 (by omega) w1
  by_cases k2 : KT tx n (p + 2) = 2
  rotate_left
  · obtain ⟨w2, f2, _, _⟩ := n2.1 k2
    exact Or.inl ⟨1, by omega, by rw [show p + 1 + 1 = p + 2 by omega]; exact k2, fun j j0 j1 => by rw [show p + 1 + j = p + 1 by omega]; exact k1, by rw [pz 201 (by omega), w2], by rw [fz, f2, show p + 1 + 1 = p + 2 by omega]⟩
  obtain ⟨w2, at2, c2⟩ := n2.2 k2
  rw [show p + 2 + 1 = p + 3 by omega] at at2
  have t2 : TX (updm m2 204 (b + a) x) = TX m2 := by unfold TX; rw [pz 201 (by omega), pz 202 (by omega)]
  refine Or.inr ⟨fun j j0 j1 => ?_, by rw [pz 201 (by omega), w2], by rw [show p + 1 + 2 = p + 3 by omega]; exact at_fr at2 (fun g _ _ => by rw [pz 201 (by omega)]) t2, fun hk => ?_, fun hz v hv hrv => ?_⟩
  · rcases (by omega : j = 0 ∨ j = 1) with e | e <;> subst e
    · rw [show p + 1 + 0 = p + 1 by omega]; exact k1
    · rw [show p + 1 + 1 = p + 2 by omega]; exact k2
  · have g1 : flM m1 = flM μ := by
      rcases c1 with ⟨_, _, _, e⟩ | ⟨_, _, _, e⟩
      · exact e
      · rw [e]; exact also_keep hk (Or.inl s1)
    rw [fz]
    rcases c2 with ⟨_, _, _, e⟩ | ⟨_, _, _, e⟩
    · rw [e, g1]
    · rw [e, g1]; exact also_keep hk (Or.inl (by omega))
  · have r0 := hrv.1
    rw [r0] at c1
    have hp8 := hv.1.1
    suffices hh : ∀ X : (Int × Int) × TV, X = plcV (stT tx n) (VT tx n) p v f lo hi → ((X.1.1 ≠ 0 → flM m2 = X.1) ∧ (X.1.1 = 0 → flM m2 = flM μ ∧ RVm X.2 (updm m2 204 (b + a) x))) from by
      rw [fz]
      exact hh _ rfl
    intro X hX
    unfold plcV at hX
    rcases c1 with ⟨c, ea, _, e⟩ | ⟨c, ea, _, e⟩
    · rw [if_neg (fun q => q (show 0 ≤ VT tx n (p + 1) ∧ VT tx n (p + 1) < v 0 0 by omega))] at hX
      rcases c2 with ⟨d, ex, _, e2⟩ | ⟨d, ex, _, e2⟩
      · rw [if_neg (fun q => q d), ← ea, ← ex] at hX
        rw [hX]
        refine ⟨fun q => absurd rfl q, fun _ => ⟨by rw [e2, e], ?_⟩⟩
        have e4 : m2 204 = μ 204 := by rw [q2.2.2.1, e1]
        have rv2 : RVm v m2 := by unfold RVm at *; rw [e4]; exact hrv
        exact set_RV rv2 hf (by omega) (by omega)
      · rw [if_pos d] at hX
        rw [hX]
        exact ⟨fun _ => by rw [e2, e, also_new hz], fun q => absurd (show (2 : Int) = 0 from q) (by omega)⟩
    · rw [if_pos (fun q : 0 ≤ VT tx n (p + 1) ∧ VT tx n (p + 1) < v 0 0 => c ⟨q.1, by omega⟩)] at hX
      rw [hX]
      refine ⟨fun _ => ?_, fun q => absurd (show (2 : Int) = 0 from q) (by omega)⟩
      have g1 : flM m1 = (2, stT tx n (p + 1)) := by rw [e, also_new hz]
      rcases c2 with ⟨_, _, _, e2⟩ | ⟨_, _, _, e2⟩
      · rw [e2, g1]
      · rw [e2, g1]; exact also_low (Or.inl s2) (show (2 : Int) ≠ 0 by omega)
/-- one number -/
theorem onl_line {tx : Int → Int} {n p hi x b : Int} {f : Nat} {μ m1 : Mem} (hb : PBm μ) (p0 : 0 ≤ p) (ha : AT tx n (p + 1) μ) (kp : KT tx n p ≠ 0) (w : μ 201 8 = 0) (q1 : Q_X11_numbered 201 0 hi μ m1 x) (hf : (f = 2 ∧ b = 2) ∨ (f = 3 ∧ b = 3)) : LineR tx n p 1 (fun v => onlV (stT tx n) (VT tx n) p v f hi) μ (updm m1 204 b x) := by
  have hn : 0 ≤ n ∧ n ≤ 500 := by have := hb.2.2.2.2.1.1; rw [ha.2.1] at this; exact this
  have s1 := stT_lt (tx := tx) hn.1 p0 (kt_lt kp)
  have pz : ∀ z : Int, z ≠ 204 → updm m1 204 b x z = m1 z := fun z hz => ru_ne hz
  have fz : flM (updm m1 204 b x) = flM m1 := by unfold flM; rw [pz 202 (by omega)]
  have n1 := num_step q1 hb ha (by omega) w
  have e1 : m1 204 = μ 204 := q1.2.2.1
  by_cases k1 : KT tx n (p + 1) = 2
  rotate_left
  · obtain ⟨w1, f1, _, _⟩ := n1.1 k1
    exact Or.inl ⟨0, by omega, by rw [show p + 1 + 0 = p + 1 by omega]; exact k1, fun j j0 j1 => by omega, by rw [pz 201 (by omega), w1], by rw [fz, f1, show p + 1 + 0 = p + 1 by omega]⟩
  obtain ⟨w1, at1, c1⟩ := n1.2 k1
  have t2 : TX (updm m1 204 b x) = TX m1 := by unfold TX; rw [pz 201 (by omega), pz 202 (by omega)]
  refine Or.inr ⟨fun j j0 j1 => by rw [show p + 1 + j = p + 1 by omega]; exact k1, by rw [pz 201 (by omega), w1], at_fr at1 (fun g _ _ => by rw [pz 201 (by omega)]) t2, fun hk => ?_, fun hz v hv hrv => ?_⟩
  · rw [fz]
    rcases c1 with ⟨_, _, _, e⟩ | ⟨_, _, _, e⟩
    · exact e
    · rw [e]; exact also_keep hk (Or.inl s1)
  · suffices hh : ∀ X : (Int × Int) × TV, X = onlV (stT tx n) (VT tx n) p v f hi → ((X.1.1 ≠ 0 → flM m1 = X.1) ∧ (X.1.1 = 0 → flM m1 = flM μ ∧ RVm X.2 (updm m1 204 b x))) from by
      rw [fz]
      exact hh _ rfl
    intro X hX
    unfold onlV at hX
    rcases c1 with ⟨d, ex, _, e⟩ | ⟨d, ex, _, e⟩
    · rw [if_neg (fun q => q d), ← ex] at hX
      rw [hX]
      refine ⟨fun q => absurd rfl q, fun _ => ⟨e, ?_⟩⟩
      have rv2 : RVm v m1 := by unfold RVm at *; rw [e1]; exact hrv
      exact setP_RV rv2 hf
    · rw [if_pos d] at hX
      rw [hX]
      exact ⟨fun _ => by rw [e, also_new hz], fun q => absurd (show (2 : Int) = 0 from q) (by omega)⟩
def P_X11_aLine (o : Int) (μ : Mem) : Prop := o = 201 ∧ PBm μ ∧ RBm μ ∧ (0 ≤ μ 201 9 ∧ μ 201 9 ≤ 1000) ∧ μ 204 1 ≤ 990 ∧ ∃ (tx : Int → Int) (n p : Int), 0 ≤ p ∧ AT tx n p μ
def LineT (tx : Int → Int) (n p : Int) (μ m : Mem) : Prop :=
  (¬ (4 ≤ KT tx n p ∧ KT tx n p ≤ 9) → m 201 8 = 1 ∧ flM m = (1, stT tx n p)) ∧
  (4 ≤ KT tx n p ∧ KT tx n p ≤ 9 →
    (∃ g : Int, (0 ≤ g ∧ g ≤ nbK (KT tx n p)) ∧ KT tx n (p + 1 + g) ≠ (if g < nbK (KT tx n p) then 2 else 1) ∧ (∀ j : Int, 0 ≤ j → j < g → KT tx n (p + 1 + j) = 2) ∧ m 201 8 = 1 ∧ flM m = (1, stT tx n (p + 1 + g))) ∨
    ((∀ j : Int, 0 ≤ j → j < nbK (KT tx n p) → KT tx n (p + 1 + j) = 2) ∧ KT tx n (p + 1 + nbK (KT tx n p)) = 1 ∧ m 201 8 = 0 ∧ AT tx n (p + 2 + nbK (KT tx n p)) m ∧ m 201 9 = μ 201 9 + 1 ∧ (keepB (stT tx n p) (flM μ) → flM m = flM μ) ∧
      ((flM μ).1 = 0 → (μ 201 9 = 40 → flM m = (3, stT tx n p)) ∧ (μ 201 9 ≠ 40 → ∀ v : TV, RdOk v → RVm v μ → ((lineV (KT tx n) (stT tx n) (VT tx n) p v).1.1 ≠ 0 → flM m = (lineV (KT tx n) (stT tx n) (VT tx n) p v).1) ∧ ((lineV (KT tx n) (stT tx n) (VT tx n) p v).1.1 = 0 → flM m = flM μ ∧ RVm (lineV (KT tx n) (stT tx n) (VT tx n) p v).2 m)))))
def Q_X11_aLine (_ : Int) (μ μ' : Mem) : Prop := PBm μ' ∧ PFm μ μ' ∧ (0 ≤ μ' 201 9 ∧ μ' 201 9 ≤ μ 201 9 + 1) ∧ (μ' 204 0 = μ 204 0 ∧ (0 ≤ μ' 204 1 ∧ μ' 204 1 ≤ μ 204 1 + 1) ∧ ∀ j : Int, 0 ≤ j → j < 64 → 0 ≤ μ' 204 (40 + j) ∧ μ' 204 (40 + j) ≤ 20) ∧ (μ 201 8 = 0 → ∀ (tx : Int → Int) (n p : Int), 0 ≤ p → AT tx n p μ → LineT tx n p μ μ')
def S_X11_aLine : S0t := fun as μ Q => match as with
  | [(2, x0)] => P_X11_aLine x0 μ ∧ ∀ (μ' : Mem) , Q_X11_aLine x0 μ μ'  → Q μ' none
  | _ => False
theorem mono_X11_aLine : Mono S_X11_aLine := by
  intro as μ Q Q' h hS
  unfold S_X11_aLine at hS ⊢
  split at hS
  · exact ⟨hS.1, fun μ' q => h _ _ (hS.2 _ q)⟩
  · exact hS.elim
def iX11_aLine : Inf := (kX11_aLine, fTX11, pTX11, cTX11, lTX11, sTX11, [(159, 0, 0, 11, S_X11_ends), (166, 0, 2, 11, S_X11_also), (170, 0, 0, 11, S_X11_advance), (173, 0, 2, 11, S_X11_numbered), (184, 0, 1, 11, S_X11_aLane), (177, 0, 0, 11, S_X11_placed), (188, 0, 0, 11, S_X11_endsLine)])
theorem ok_X11_aLine : infOK iX11_aLine mX11_aLine RX11 7 158 := ⟨kkX11_aLine, fTX11_ok, pTX11_ok _, cTX11_ok, lTX11_ok, sTX11_ok, c_cons ⟨mX11_ends, 0, 0, ct_X11_ends, mmX11_ends, vvX11_ends, lkX11_159, ⟨by decide, by decide⟩, ⟨_, _, rfl⟩, by decide, mono_X11_ends⟩ (c_cons ⟨mX11_also, 0, 0, ct_X11_also, mmX11_also, vvX11_also, lkX11_166, ⟨by decide, by decide⟩, ⟨_, _, rfl⟩, by decide, mono_X11_also⟩ (c_cons ⟨mX11_advance, 3, 66, ct_X11_advance, mmX11_advance, vvX11_advance, lkX11_170, ⟨by decide, by decide⟩, ⟨_, _, rfl⟩, by decide, mono_X11_advance⟩ (c_cons ⟨mX11_numbered, 4, 89, ct_X11_numbered, mmX11_numbered, vvX11_numbered, lkX11_173, ⟨by decide, by decide⟩, ⟨_, _, rfl⟩, by decide, mono_X11_numbered⟩ (c_cons ⟨mX11_aLane, 6, 132, ct_X11_aLane, mmX11_aLane, vvX11_aLane, lkX11_184, ⟨by decide, by decide⟩, ⟨_, _, rfl⟩, by decide, mono_X11_aLane⟩ (c_cons ⟨mX11_placed, 5, 112, ct_X11_placed, mmX11_placed, vvX11_placed, lkX11_177, ⟨by decide, by decide⟩, ⟨_, _, rfl⟩, by decide, mono_X11_placed⟩ (c_cons ⟨mX11_endsLine, 4, 89, ct_X11_endsLine, mmX11_endsLine, vvX11_endsLine, lkX11_188, ⟨by decide, by decide⟩, ⟨_, _, rfl⟩, by decide, mono_X11_endsLine⟩ (c_nil)))))))⟩
theorem mt_X11_aLine : mtOK [] RX11 7 158 := mt_nil
abbrev V_X11_aLine (R : Mem → Option AV → Prop) (pc : Nat) (lc : List (Nat × AV)) (μ : Mem) : Prop := VM mX11_aLine RX11 7 158 R pc lc [] μ
set_option maxRecDepth 20000 in
theorem vc_X11_aLine_0 {R : Mem → Option AV → Prop} {μ : Mem} (H : r32 (μ 201 8) ∧ ((¬ (μ 201 8) = 0) → P_X11_ends 201 μ ∧ (∀ (μ1 : Mem), Q_X11_ends 201 μ μ1 → R μ1 none)) ∧ (¬ (¬ (μ 201 8) = 0) → r32 (μ 201 5) ∧ ((¬ (μ 201 5) = (3 : Int)) → P_X11_ends 201 μ ∧ (∀ (μ4 : Mem), Q_X11_ends 201 μ μ4 → R μ4 none)) ∧ (¬ (¬ (μ 201 5) = (3 : Int)) → r32 (μ 201 7) ∧ ((¬ (μ 201 7) = (1 : Int)) → r32 (μ 201 9) ∧ ((¬ (μ 201 9) = (40 : Int)) → V_X11_aLine R 50 [(0, kR 201), (1, kI (μ 201 7)), (2, kI (μ 201 4))] μ) ∧ (¬ (¬ (μ 201 9) = (40 : Int)) → P_X11_also 201 3 (μ 201 4) μ ∧ (∀ (μ7 : Mem), Q_X11_also 201 3 (μ 201 4) μ μ7 → V_X11_aLine R 50 [(0, kR 201), (1, kI (μ 201 7)), (2, kI (μ 201 4))] μ7))) ∧ (¬ (¬ (μ 201 7) = (1 : Int)) → P_X11_ends 201 μ ∧ (∀ (μ11 : Mem), Q_X11_ends 201 μ μ11 → R μ11 none))))) : V_X11_aLine R 0 [(0, kR 201)] μ := by
  refine vm_step2 mt_X11_aLine ok_X11_aLine [(50, [0, 1, 2]), (60, [0, 1, 2]), (64, [0, 1, 2]), (105, [0]), (129, [0]), (153, [0]), (177, [0]), (194, [0]), (210, [0])] 1000 ?_
  show isC 201 11 ∧ isC 201 11 ∧ isC 201 11 ∧ r32 (μ 201 8) ∧ ((¬ (μ 201 8) = 0) → isC 201 11 ∧ P_X11_ends 201 μ ∧ (∀ (μ1 : Mem), Q_X11_ends 201 μ μ1 → R μ1 none)) ∧ (¬ (¬ (μ 201 8) = 0) → isC 201 11 ∧ (r32 (μ 201 5) ∧ r32 (3 : Int)) ∧ ((¬ (μ 201 5) = (3 : Int)) → isC 201 11 ∧ P_X11_ends 201 μ ∧ (∀ (μ4 : Mem), Q_X11_ends 201 μ μ4 → R μ4 none)) ∧ (¬ (¬ (μ 201 5) = (3 : Int)) → (r32 (μ 201 7) ∧ r32 (1 : Int)) ∧ ((¬ (μ 201 7) = (1 : Int)) → isC 201 11 ∧ (r32 (μ 201 9) ∧ r32 (40 : Int)) ∧ ((¬ (μ 201 9) = (40 : Int)) → V_X11_aLine R 50 [(0, kR 201), (1, kI (μ 201 7)), (2, kI (μ 201 4))] μ) ∧ (¬ (¬ (μ 201 9) = (40 : Int)) → isC 201 11 ∧ P_X11_also 201 3 (μ 201 4) μ ∧ (∀ (μ7 : Mem), Q_X11_also 201 3 (μ 201 4) μ μ7 → V_X11_aLine R 50 [(0, kR 201), (1, kI (μ 201 7)), (2, kI (μ 201 4))] μ7))) ∧ (¬ (¬ (μ 201 7) = (1 : Int)) → isC 201 11 ∧ P_X11_ends 201 μ ∧ (∀ (μ11 : Mem), Q_X11_ends 201 μ μ11 → R μ11 none))))
  exact ⟨c_201, ⟨c_201, ⟨c_201, ⟨H.1, fun hc16 => ⟨c_201, (H.2.1 hc16).1, fun μ1 hq3 => ((H.2.1 hc16).2 μ1 hq3)⟩, fun hc16 => ⟨c_201, ⟨⟨(H.2.2 hc16).1, by unfold r32; omega⟩, fun hc15 => ⟨c_201, ((H.2.2 hc16).2.1 hc15).1, fun μ4 hq6 => (((H.2.2 hc16).2.1 hc15).2 μ4 hq6)⟩, fun hc15 => ⟨⟨((H.2.2 hc16).2.2 hc15).1, by unfold r32; omega⟩, fun hc14 => ⟨c_201, ⟨⟨(((H.2.2 hc16).2.2 hc15).2.1 hc14).1, by unfold r32; omega⟩, fun hc10 => ((((H.2.2 hc16).2.2 hc15).2.1 hc14).2.1 hc10), fun hc10 => ⟨c_201, ((((H.2.2 hc16).2.2 hc15).2.1 hc14).2.2 hc10).1, fun μ7 hq9 => (((((H.2.2 hc16).2.2 hc15).2.1 hc14).2.2 hc10).2 μ7 hq9)⟩⟩⟩, fun hc14 => ⟨c_201, (((H.2.2 hc16).2.2 hc15).2.2 hc14).1, fun μ11 hq13 => ((((H.2.2 hc16).2.2 hc15).2.2 hc14).2 μ11 hq13)⟩⟩⟩⟩⟩⟩⟩⟩
set_option maxRecDepth 20000 in
theorem vc_X11_aLine_50 {R : Mem → Option AV → Prop} {w p : Int} {μ : Mem} (H : V_X11_aLine R 60 [(0, kR 201), (1, kI w), (2, kI p)] (updm μ 201 9 ((μ 201 9) + 1))) : V_X11_aLine R 50 [(0, kR 201), (1, kI w), (2, kI p)] μ := by
  refine vm_step2 mt_X11_aLine ok_X11_aLine [(50, [0, 1, 2]), (60, [0, 1, 2]), (64, [0, 1, 2]), (105, [0]), (129, [0]), (153, [0]), (177, [0]), (194, [0]), (210, [0])] 1000 ?_
  show isC 201 11 ∧ isC 201 11 ∧ 0 = 0 ∧ True ∧ V_X11_aLine R 60 [(0, kR 201), (1, kI w), (2, kI p)] (updm μ 201 9 ((μ 201 9) + 1))
  exact ⟨c_201, ⟨c_201, rfl, trivial, H⟩⟩
set_option maxRecDepth 20000 in
theorem vc_X11_aLine_60 {R : Mem → Option AV → Prop} {w p : Int} {μ : Mem} (H : P_X11_advance 201 μ ∧ (∀ (μ17 : Mem), Q_X11_advance 201 μ μ17 → V_X11_aLine R 64 [(0, kR 201), (1, kI w), (2, kI p)] μ17)) : V_X11_aLine R 60 [(0, kR 201), (1, kI w), (2, kI p)] μ := by
  refine vm_step2 mt_X11_aLine ok_X11_aLine [(50, [0, 1, 2]), (60, [0, 1, 2]), (64, [0, 1, 2]), (105, [0]), (129, [0]), (153, [0]), (177, [0]), (194, [0]), (210, [0])] 1000 ?_
  show isC 201 11 ∧ P_X11_advance 201 μ ∧ (∀ (μ17 : Mem), Q_X11_advance 201 μ μ17 → V_X11_aLine R 64 [(0, kR 201), (1, kI w), (2, kI p)] μ17)
  exact ⟨c_201, H.1, fun μ17 hq19 => (H.2 μ17 hq19)⟩
set_option maxRecDepth 20000 in
theorem vc_X11_aLine_64 {R : Mem → Option AV → Prop} {w p : Int} {μ : Mem} (H : r32 w ∧ (w < 2 ∨ 6 < w → P_X11_numbered 201 0 12 μ ∧ (∀ (μ20 : Mem) (rv21 : Int), Q_X11_numbered 201 0 12 μ μ20 rv21 → V_X11_aLine R 210 [(0, kR 201)] (updm μ20 204 3 rv21))) ∧ (w = 2 → P_X11_aLane 201 p μ ∧ (∀ (μ23 : Mem), Q_X11_aLane 201 p μ μ23 → V_X11_aLine R 105 [(0, kR 201)] μ23)) ∧ (w = 3 → P_X11_placed 201 μ ∧ (∀ (μ26 : Mem) (rv27 : Int), Q_X11_placed 201 μ μ26 rv27 → P_X11_numbered 201 0 99 μ26 ∧ (∀ (μ29 : Mem) (rv30 : Int), Q_X11_numbered 201 0 99 μ26 μ29 rv30 → (0 ≤ (10 + rv27) ∧ (10 + rv27) < 104) ∧ V_X11_aLine R 129 [(0, kR 201)] (updm μ29 204 (10 + rv27) rv30)))) ∧ (w = 4 → P_X11_placed 201 μ ∧ (∀ (μ32 : Mem) (rv33 : Int), Q_X11_placed 201 μ μ32 rv33 → P_X11_numbered 201 1 12 μ32 ∧ (∀ (μ35 : Mem) (rv36 : Int), Q_X11_numbered 201 1 12 μ32 μ35 rv36 → (0 ≤ (20 + rv33) ∧ (20 + rv33) < 104) ∧ V_X11_aLine R 153 [(0, kR 201)] (updm μ35 204 (20 + rv33) rv36)))) ∧ (w = 5 → P_X11_placed 201 μ ∧ (∀ (μ38 : Mem) (rv39 : Int), Q_X11_placed 201 μ μ38 rv39 → P_X11_numbered 201 1 99 μ38 ∧ (∀ (μ41 : Mem) (rv42 : Int), Q_X11_numbered 201 1 99 μ38 μ41 rv42 → (0 ≤ (30 + rv39) ∧ (30 + rv39) < 104) ∧ V_X11_aLine R 177 [(0, kR 201)] (updm μ41 204 (30 + rv39) rv42)))) ∧ (w = 6 → P_X11_numbered 201 0 999 μ ∧ (∀ (μ44 : Mem) (rv45 : Int), Q_X11_numbered 201 0 999 μ μ44 rv45 → V_X11_aLine R 194 [(0, kR 201)] (updm μ44 204 2 rv45)))) : V_X11_aLine R 64 [(0, kR 201), (1, kI w), (2, kI p)] μ := by
  refine vm_step2 mt_X11_aLine ok_X11_aLine [(50, [0, 1, 2]), (60, [0, 1, 2]), (64, [0, 1, 2]), (105, [0]), (129, [0]), (153, [0]), (177, [0]), (194, [0]), (210, [0])] 1000 ?_
  show r32 w ∧ (w < 2 ∨ 6 < w → isC 201 11 ∧ isC 201 11 ∧ P_X11_numbered 201 0 12 μ ∧ (∀ (μ20 : Mem) (rv21 : Int), Q_X11_numbered 201 0 12 μ μ20 rv21 → inA 204 0 (3 : Int) ∧ V_X11_aLine R 210 [(0, kR 201)] (updm μ20 204 3 rv21))) ∧ (w = 2 → isC 201 11 ∧ P_X11_aLane 201 p μ ∧ (∀ (μ23 : Mem), Q_X11_aLane 201 p μ μ23 → V_X11_aLine R 105 [(0, kR 201)] μ23)) ∧ (w = 3 → isC 201 11 ∧ P_X11_placed 201 μ ∧ (∀ (μ26 : Mem) (rv27 : Int), Q_X11_placed 201 μ μ26 rv27 → isC 201 11 ∧ isC 201 11 ∧ P_X11_numbered 201 0 99 μ26 ∧ (∀ (μ29 : Mem) (rv30 : Int), Q_X11_numbered 201 0 99 μ26 μ29 rv30 → inA 204 0 (10 + rv27) ∧ V_X11_aLine R 129 [(0, kR 201)] (updm μ29 204 (10 + rv27) rv30)))) ∧ (w = 4 → isC 201 11 ∧ P_X11_placed 201 μ ∧ (∀ (μ32 : Mem) (rv33 : Int), Q_X11_placed 201 μ μ32 rv33 → isC 201 11 ∧ isC 201 11 ∧ P_X11_numbered 201 1 12 μ32 ∧ (∀ (μ35 : Mem) (rv36 : Int), Q_X11_numbered 201 1 12 μ32 μ35 rv36 → inA 204 0 (20 + rv33) ∧ V_X11_aLine R 153 [(0, kR 201)] (updm μ35 204 (20 + rv33) rv36)))) ∧ (w = 5 → isC 201 11 ∧ P_X11_placed 201 μ ∧ (∀ (μ38 : Mem) (rv39 : Int), Q_X11_placed 201 μ μ38 rv39 → isC 201 11 ∧ isC 201 11 ∧ P_X11_numbered 201 1 99 μ38 ∧ (∀ (μ41 : Mem) (rv42 : Int), Q_X11_numbered 201 1 99 μ38 μ41 rv42 → inA 204 0 (30 + rv39) ∧ V_X11_aLine R 177 [(0, kR 201)] (updm μ41 204 (30 + rv39) rv42)))) ∧ (w = 6 → isC 201 11 ∧ isC 201 11 ∧ P_X11_numbered 201 0 999 μ ∧ (∀ (μ44 : Mem) (rv45 : Int), Q_X11_numbered 201 0 999 μ μ44 rv45 → inA 204 0 (2 : Int) ∧ V_X11_aLine R 194 [(0, kR 201)] (updm μ44 204 2 rv45))) ∧ True
  exact ⟨H.1, fun hc47 => ⟨c_201, ⟨c_201, (H.2.1 hc47).1, fun μ20 rv21 hq22 => ⟨isArr.in a_204 (by omega) (by omega), ((H.2.1 hc47).2 μ20 rv21 hq22)⟩⟩⟩, fun hc47 => ⟨c_201, (H.2.2.1 hc47).1, fun μ23 hq25 => ((H.2.2.1 hc47).2 μ23 hq25)⟩, fun hc47 => ⟨c_201, (H.2.2.2.1 hc47).1, fun μ26 rv27 hq28 => ⟨c_201, ⟨c_201, ((H.2.2.2.1 hc47).2 μ26 rv27 hq28).1, fun μ29 rv30 hq31 => ⟨isArr.in a_204 (((H.2.2.2.1 hc47).2 μ26 rv27 hq28).2 μ29 rv30 hq31).1.1 (((H.2.2.2.1 hc47).2 μ26 rv27 hq28).2 μ29 rv30 hq31).1.2, (((H.2.2.2.1 hc47).2 μ26 rv27 hq28).2 μ29 rv30 hq31).2⟩⟩⟩⟩, fun hc47 => ⟨c_201, (H.2.2.2.2.1 hc47).1, fun μ32 rv33 hq34 => ⟨c_201, ⟨c_201, ((H.2.2.2.2.1 hc47).2 μ32 rv33 hq34).1, fun μ35 rv36 hq37 => ⟨isArr.in a_204 (((H.2.2.2.2.1 hc47).2 μ32 rv33 hq34).2 μ35 rv36 hq37).1.1 (((H.2.2.2.2.1 hc47).2 μ32 rv33 hq34).2 μ35 rv36 hq37).1.2, (((H.2.2.2.2.1 hc47).2 μ32 rv33 hq34).2 μ35 rv36 hq37).2⟩⟩⟩⟩, fun hc47 => ⟨c_201, (H.2.2.2.2.2.1 hc47).1, fun μ38 rv39 hq40 => ⟨c_201, ⟨c_201, ((H.2.2.2.2.2.1 hc47).2 μ38 rv39 hq40).1, fun μ41 rv42 hq43 => ⟨isArr.in a_204 (((H.2.2.2.2.2.1 hc47).2 μ38 rv39 hq40).2 μ41 rv42 hq43).1.1 (((H.2.2.2.2.2.1 hc47).2 μ38 rv39 hq40).2 μ41 rv42 hq43).1.2, (((H.2.2.2.2.2.1 hc47).2 μ38 rv39 hq40).2 μ41 rv42 hq43).2⟩⟩⟩⟩, fun hc47 => ⟨c_201, ⟨c_201, (H.2.2.2.2.2.2 hc47).1, fun μ44 rv45 hq46 => ⟨isArr.in a_204 (by omega) (by omega), ((H.2.2.2.2.2.2 hc47).2 μ44 rv45 hq46)⟩⟩⟩, trivial⟩
set_option maxRecDepth 20000 in
theorem vc_X11_aLine_105 {R : Mem → Option AV → Prop} {μ : Mem} (H : V_X11_aLine R 210 [(0, kR 201)] μ) : V_X11_aLine R 105 [(0, kR 201)] μ := by
  refine vm_step2 mt_X11_aLine ok_X11_aLine [(50, [0, 1, 2]), (60, [0, 1, 2]), (64, [0, 1, 2]), (105, [0]), (129, [0]), (153, [0]), (177, [0]), (194, [0]), (210, [0])] 1000 ?_
  show V_X11_aLine R 210 [(0, kR 201)] μ
  exact H
set_option maxRecDepth 20000 in
theorem vc_X11_aLine_129 {R : Mem → Option AV → Prop} {μ : Mem} (H : V_X11_aLine R 210 [(0, kR 201)] μ) : V_X11_aLine R 129 [(0, kR 201)] μ := by
  refine vm_step2 mt_X11_aLine ok_X11_aLine [(50, [0, 1, 2]), (60, [0, 1, 2]), (64, [0, 1, 2]), (105, [0]), (129, [0]), (153, [0]), (177, [0]), (194, [0]), (210, [0])] 1000 ?_
  show V_X11_aLine R 210 [(0, kR 201)] μ
  exact H
set_option maxRecDepth 20000 in
theorem vc_X11_aLine_153 {R : Mem → Option AV → Prop} {μ : Mem} (H : V_X11_aLine R 210 [(0, kR 201)] μ) : V_X11_aLine R 153 [(0, kR 201)] μ := by
  refine vm_step2 mt_X11_aLine ok_X11_aLine [(50, [0, 1, 2]), (60, [0, 1, 2]), (64, [0, 1, 2]), (105, [0]), (129, [0]), (153, [0]), (177, [0]), (194, [0]), (210, [0])] 1000 ?_
  show V_X11_aLine R 210 [(0, kR 201)] μ
  exact H
set_option maxRecDepth 20000 in
theorem vc_X11_aLine_177 {R : Mem → Option AV → Prop} {μ : Mem} (H : V_X11_aLine R 210 [(0, kR 201)] μ) : V_X11_aLine R 177 [(0, kR 201)] μ := by
  refine vm_step2 mt_X11_aLine ok_X11_aLine [(50, [0, 1, 2]), (60, [0, 1, 2]), (64, [0, 1, 2]), (105, [0]), (129, [0]), (153, [0]), (177, [0]), (194, [0]), (210, [0])] 1000 ?_
  show V_X11_aLine R 210 [(0, kR 201)] μ
  exact H
set_option maxRecDepth 20000 in
theorem vc_X11_aLine_194 {R : Mem → Option AV → Prop} {μ : Mem} (H : V_X11_aLine R 210 [(0, kR 201)] μ) : V_X11_aLine R 194 [(0, kR 201)] μ := by
  refine vm_step2 mt_X11_aLine ok_X11_aLine [(50, [0, 1, 2]), (60, [0, 1, 2]), (64, [0, 1, 2]), (105, [0]), (129, [0]), (153, [0]), (177, [0]), (194, [0]), (210, [0])] 1000 ?_
  show V_X11_aLine R 210 [(0, kR 201)] μ
  exact H
set_option maxRecDepth 20000 in
theorem vc_X11_aLine_210 {R : Mem → Option AV → Prop} {μ : Mem} (H : P_X11_endsLine 201 μ ∧ (∀ (μ48 : Mem), Q_X11_endsLine 201 μ μ48 → R μ48 none)) : V_X11_aLine R 210 [(0, kR 201)] μ := by
  refine vm_step2 mt_X11_aLine ok_X11_aLine [(50, [0, 1, 2]), (60, [0, 1, 2]), (64, [0, 1, 2]), (105, [0]), (129, [0]), (153, [0]), (177, [0]), (194, [0]), (210, [0])] 1000 ?_
  show isC 201 11 ∧ P_X11_endsLine 201 μ ∧ (∀ (μ48 : Mem), Q_X11_endsLine 201 μ μ48 → R μ48 none)
  exact ⟨c_201, H.1, fun μ48 hq50 => (H.2 μ48 hq50)⟩
theorem PB_fr {μ m : Mem} (h : PBm μ) (hf : ∀ f : Int, 2 ≤ f → f ≤ 8 → m 201 f = μ 201 f) (h2 : m 202 = μ 202) : PBm m := by
  unfold PBm TBm at *
  rw [h2, hf 2 (by omega) (by omega), hf 3 (by omega) (by omega), hf 4 (by omega) (by omega), hf 5 (by omega) (by omega), hf 6 (by omega) (by omega), hf 8 (by omega) (by omega)]
  exact h
theorem line_fin {tx : Int → Int} {n p c : Int} {res : TV → (Int × Int) × TV} {μ m17 m2 m : Mem} (p0 : 0 ≤ p) (c0 : 0 ≤ c) (hk : 4 ≤ KT tx n p ∧ KT tx n p ≤ 9) (hc : nbK (KT tx n p) = c) (hres : ∀ v, lineV (KT tx n) (stT tx n) (VT tx n) p v = res v) (hl : LineR tx n p c res m17 m2) (pb2 : PBm m2) (q : Q_X11_endsLine 201 m2 m) (h9 : m2 201 9 = μ 201 9 + 1) (hfl : flM m17 = if μ 201 9 = 40 then alsoF (flM μ) 3 (stT tx n p) else flM μ) (h204 : m17 204 = μ 204) : LineT tx n p μ m := by
  obtain ⟨q1, q2, q3, q4, q5⟩ := q
  refine ⟨fun z => absurd hk z, fun _ => ?_⟩
  rw [hc]
  rcases hl with ⟨g, g0, gk, gj, gw, gf⟩ | ⟨hall, w2, at2, hkeep, htell⟩
  · refine Or.inl ⟨g, by omega, by rw [if_pos g0.2]; exact gk, gj, ?_⟩
    rcases q5 with ⟨_, b, e⟩ | ⟨a, _⟩ | ⟨a, _⟩
    · exact ⟨b, by rw [e, gf]⟩
    · omega
    · omega
  · have tk := at_tok at2
    rcases q5 with ⟨a, _⟩ | ⟨a, b, e, f⟩ | ⟨a, b, e, f, g⟩
    · omega
    · refine Or.inl ⟨c, by omega, ?_, fun j j0 j1 => hall j j0 j1, e, by rw [f, at_where at2]⟩
      rw [if_neg (by omega)]
      exact fun k => b (tk.2.2.1.mpr k)
    · have k1 := tk.2.2.1.mp b
      have at3 := at_next at2 (by omega) pb2.2.2.2.2.1 q2 f
      rw [show p + 1 + c + 1 = p + 2 + c by omega] at at3
      refine Or.inr ⟨hall, k1, e, at3, by rw [q4, h9], fun hkp => ?_, fun hz => ⟨fun h40 => ?_, fun h40 v hv hrv => ?_⟩⟩
      · have e17 : flM m17 = flM μ := by
          rw [hfl]
          split
          · exact also_keep hkp (Or.inr ⟨rfl, rfl⟩)
          · rfl
        rw [g, hkeep (by rw [e17]; exact hkp), e17]
      · have e17 : flM m17 = (3, stT tx n p) := by rw [hfl, if_pos h40, also_new hz]
        rw [g, hkeep (by rw [e17]; exact ⟨by show (3 : Int) ≠ 0; omega, Or.inr ⟨rfl, by show (3 : Int) ≤ 3; omega⟩⟩), e17]
      · have e17 : flM m17 = flM μ := by rw [hfl, if_neg h40]
        rw [hres v]
        have rv17 : RVm v m17 := by unfold RVm at *; rw [h204]; exact hrv
        have := htell (by rw [e17]; exact hz) v hv rv17
        rw [g]
        refine ⟨this.1, fun z => ⟨by rw [(this.2 z).1, e17], ?_⟩⟩
        have r2 := (this.2 z).2
        unfold RVm at *
        rw [q3]
        exact r2
theorem body_X11_aLine {o : Int} {μ : Mem} {R : Mem → Option AV → Prop} (h : P_X11_aLine o μ) (hR : ∀ μ' : Mem, Q_X11_aLine o μ μ' → R μ' none) : V_X11_aLine R 0 [(0, kR o)] μ := by
  obtain ⟨rfl, hb, hr, h9, hl1, tx0, n0, p0, hp0, ha0⟩ := h
  have hb4 := hb.2.2.2.1
  have tk0 := at_tok ha0
  have r3 : ∀ m : Mem, PBm m → r32 (m 202 3) ∧ r32 (m 202 4) := fun m hm => ⟨rr (by have := hm.2.1; omega), rr (by have := hm.2.2.1; omega)⟩
  -- it ends here
  have ends : ∀ m1 : Mem, Q_X11_ends 201 μ m1 → (μ 201 8 = 0 → ∀ (tx : Int → Int) (n p : Int), AT tx n p μ → ¬ (4 ≤ KT tx n p ∧ KT tx n p ≤ 9)) → R m1 none := fun m1 q hc => by
    obtain ⟨a1, a2, a3, a4, a5, a6, a7⟩ := ends_PB hb q
    refine hR m1 ⟨a1, a2, by rw [a4 9 (by omega)]; omega, by rw [a3]; exact ⟨rfl, by have := hr.2.1; omega, hr.2.2⟩, fun w tx n p hp ha => ⟨fun _ => ⟨a5, by rw [a7 w, at_where ha]⟩, fun k => absurd k (hc w tx n p ha)⟩⟩
  refine vc_X11_aLine_0 ⟨by rcases hb.1 with e | e <;> rw [e] <;> exact rr (by omega), fun c => ⟨⟨rfl, hb.1⟩, fun m1 q => ends m1 q (fun w => absurd w c)⟩, fun c => ⟨rr (by omega), fun d => ⟨⟨rfl, hb.1⟩, fun m1 q => ends m1 q (fun _ tx n p ha k => d ((at_tok ha).2.2.2.mpr ⟨by omega, k.2⟩))⟩, fun d => ?_⟩⟩
  have w0 := Classical.not_not.mp c
  have t3 := Classical.not_not.mp d
  have k0 := tk0.2.2.2.mp t3
  have wd0 := at_word ha0 k0.1 k0.2
  refine ⟨rr (by omega), fun e => ?_, fun e => ⟨⟨rfl, hb.1⟩, fun m1 q => ends m1 q (fun _ tx n p ha k => ?_)⟩⟩
  rotate_left
  · have k3 := (at_tok ha).2.2.2.mp t3
    have := at_word ha k3.1 k3.2
    have := Classical.not_not.mp e
    omega
  -- a line
  have hwh := hb.2.2.2.2.2.2.1
  have main : ∀ m1 : Mem, m1 = (if μ 201 9 = 40 then alsoM μ 3 (μ 201 4) else μ) → V_X11_aLine R 50 [(0, kR 201), (1, kI (μ 201 7)), (2, kI (μ 201 4))] m1 := by
    intro m1 hm1
    have b1 : PBm m1 ∧ PFm μ m1 ∧ m1 201 = μ 201 ∧ m1 204 = μ 204 ∧ TX m1 = TX μ ∧ flM m1 = (if μ 201 9 = 40 then alsoF (flM μ) 3 (μ 201 4) else flM μ) := by
      by_cases c : μ 201 9 = 40
      · rw [if_pos c] at hm1 ⊢
        have := also_keepM (k := 3) hb (by omega) hwh
        have f := alsoM_fl (k := 3) (p := μ 201 4) w0
        rw [← hm1] at this f
        exact ⟨this.1, this.2.1, this.2.2.1, this.2.2.2.1, this.2.2.2.2, f⟩
      · rw [if_neg c] at hm1 ⊢
        rw [hm1]
        exact ⟨hb, PFm_0 _, rfl, rfl, rfl, rfl⟩
    obtain ⟨pb1, pf1, e201, e204, etx, ef1⟩ := b1
    refine vc_X11_aLine_50 ?_
    rw [e201]
    obtain ⟨m2, em2⟩ : ∃ m2, m2 = updm m1 201 9 (μ 201 9 + 1) := ⟨_, rfl⟩
    rw [← em2]
    have f2 : ∀ f : Int, f ≠ 9 → m2 201 f = μ 201 f := fun f hf => by rw [em2, ru_eq, r1_ne hf, e201]
    have g9 : m2 201 9 = μ 201 9 + 1 := by rw [em2, ru_eq, r1_eq]
    have z2 : ∀ z : Int, z ≠ 201 → m2 z = m1 z := fun z hz => by rw [em2, ru_ne hz]
    have pb2 : PBm m2 := PB_fr pb1 (fun f f0 f1 => by rw [f2 f (by omega), e201]) (z2 202 (by omega))
    have pf2 : PFm μ m2 := ⟨fun f hf => f2 f (by omega), fun j a b => by rw [z2 202 (by omega)]; exact pf1.2.1 j a b, fun z a b cc => by rw [z2 z a, pf1.2.2 z a b cc]⟩
    have tx2 : TX m2 = TX μ := (pf2.tx hb.2.2.2.2.1).1
    refine vc_X11_aLine_60 ⟨⟨rfl, pb2.2.2.2.2.1, pb2.2.2.2.2.2.1.1, pb2.2.2.2.2.2.1.2⟩, fun m17 q17 => ?_⟩
    obtain ⟨a1, a2, a3⟩ := q17
    obtain ⟨pb17, pf17, fl17, w17⟩ := adv_PB pb2 a1 a2 a3
    have pfA : PFm μ m17 := pf2.trans pf17
    have e17 : m17 204 = μ 204 := by rw [a3 204 (by omega), z2 204 (by omega), e204]
    have n17 : m17 201 9 = μ 201 9 + 1 := by rw [a2 9 (by omega), g9]
    have ww : m17 201 8 = 0 := by rw [w17, f2 8 (by omega), w0]
    have fl17' : flM m17 = (if μ 201 9 = 40 then alsoF (flM μ) 3 (μ 201 4) else flM μ) := by
      rw [fl17, ← ef1]
      unfold flM
      rw [z2 202 (by omega)]
    have at17 : ∀ (tx : Int → Int) (n p : Int), 0 ≤ p → AT tx n p μ → AT tx n (p + 1) m17 := fun tx n p hp ha => by
      have at2 : AT tx n p m2 := at_fr ha (fun f _ _ => f2 f (by omega)) tx2
      exact at_next at2 hp pb2.2.2.2.2.1 pf17 a1
    have rb17 : RBm m17 := RB_eq hr e17
    have hr0 := hr.1
    have cells : ∀ (m : Mem) (b x : Int), m 204 = μ 204 → (b = 2 ∨ b = 3 ∨ (10 ≤ b ∧ b < 38)) → (updm m 204 b x 204 0 = μ 204 0 ∧ (0 ≤ updm m 204 b x 204 1 ∧ updm m 204 b x 204 1 ≤ μ 204 1 + 1) ∧ ∀ j : Int, 0 ≤ j → j < 64 → 0 ≤ updm m 204 b x 204 (40 + j) ∧ updm m 204 b x 204 (40 + j) ≤ 20) := fun m b x hm hbb => by
      have o : ∀ j : Int, j ≠ b → updm m 204 b x 204 j = μ 204 j := fun j hj => by rw [ru_eq, r1_ne hj, hm]
      have := hr.2.1
      refine ⟨o 0 (by omega), by rw [o 1 (by omega)]; omega, fun j j0 j1 => by rw [o (40 + j) (by omega)]; exact hr.2.2 j j0 j1⟩
    -- the line's end
    have close : ∀ m3 : Mem, PBm m3 → PFm m17 m3 → m3 201 9 = m17 201 9 → (m3 204 0 = μ 204 0 ∧ (0 ≤ m3 204 1 ∧ m3 204 1 ≤ μ 204 1 + 1) ∧ ∀ j : Int, 0 ≤ j → j < 64 → 0 ≤ m3 204 (40 + j) ∧ m3 204 (40 + j) ≤ 20) → (∀ (tx : Int → Int) (n p : Int), 0 ≤ p → AT tx n p μ → 4 ≤ KT tx n p ∧ KT tx n p ≤ 9 → ∃ (c : Int) (res : TV → (Int × Int) × TV), 0 ≤ c ∧ nbK (KT tx n p) = c ∧ (∀ v, lineV (KT tx n) (stT tx n) (VT tx n) p v = res v) ∧ LineR tx n p c res m17 m3) → V_X11_aLine R 210 [(0, kR 201)] m3 := by
      intro m3 b3 pf3 h39 hc3 hline
      refine vc_X11_aLine_210 ⟨⟨rfl, b3⟩, fun m4 q => ?_⟩
      have q' : Q_X11_endsLine 201 m3 m4 := q
      obtain ⟨x1, x2, x3, x4, x5⟩ := q
      refine hR m4 ⟨x1, (pfA.trans pf3).trans x2, by rw [x4, h39, n17]; omega, by rw [x3]; exact hc3, fun _ tx n p hp ha => ?_⟩
      have k3 := (at_tok ha).2.2.2.mp t3
      have wd := at_word ha k3.1 k3.2
      have k4 : 4 ≤ KT tx n p ∧ KT tx n p ≤ 9 := by omega
      obtain ⟨c, res, c0, hc, hres, hl⟩ := hline tx n p hp ha k4
      refine line_fin hp c0 k4 hc hres hl b3 q' (by rw [h39, n17]) ?_ e17
      rw [fl17', at_where ha]
    -- the word in terms of the token
    have kw : ∀ (tx : Int → Int) (n p : Int), AT tx n p μ → 4 ≤ KT tx n p ∧ KT tx n p ≤ 9 → KT tx n p = μ 201 7 + 2 := fun tx n p ha k => by
      have := at_word ha (by omega) k.2
      omega
    have upd : ∀ (m : Mem) (b x : Int), PBm m → PBm (updm m 204 b x) ∧ PFm m (updm m 204 b x) := fun m b x hm => ⟨PB_fr hm (fun f _ _ => by rw [ru_ne (by omega)]) (by rw [ru_ne (by omega)]), fun f _ => by rw [ru_ne (by omega)], fun j _ _ => by rw [ru_ne (by omega)], fun z _ _ hz => ru_ne hz⟩
    have nb : ∀ k : Int, nbK k = if k = 3 then 1 else if k = 4 then 3 else if k = 5 then 2 else if k = 6 then 2 else if k = 7 then 2 else if k = 8 then 1 else if k = 9 then 1 else 0 := fun _ => rfl
    refine vc_X11_aLine_64 ⟨rr (by omega), fun hw => ?_, fun hw => ?_, fun hw => ?_, fun hw => ?_, fun hw => ?_, fun hw => ?_⟩
    · -- move
      refine ⟨⟨rfl, pb17, rr (by omega), rr (by omega)⟩, fun m3 x q3 => ?_⟩
      have e3 : m3 204 = μ 204 := by rw [q3.2.2.1, e17]
      have u := upd m3 3 x q3.1
      refine close _ u.1 (q3.2.1.trans u.2) (by rw [ru_ne (by omega)]; exact q3.2.2.2.1) (cells m3 3 x e3 (by omega)) (fun tx n p hp ha k => ⟨1, _, by omega, ?_, fun v => ?_, onl_line pb17 hp (at17 tx n p hp ha) (by omega) ww q3 (Or.inr ⟨rfl, rfl⟩)⟩)
      · have := kw tx n p ha k
        rw [show KT tx n p = 9 by omega]; rfl
      · have := kw tx n p ha k
        unfold lineV
        rw [if_neg (by omega), if_neg (by omega), if_neg (by omega), if_neg (by omega), if_neg (by omega)]
    · -- lane
      refine ⟨⟨rfl, pb17, rb17, hwh⟩, fun m3 q3 => vc_X11_aLine_105 ?_⟩
      have lb := lan_base pb17 rb17 hwh q3
      rw [e17] at lb
      refine close m3 lb.1 lb.2.1 lb.2.2.1 lb.2.2.2 (fun tx n p hp ha k => ⟨3, _, by omega, ?_, fun v => ?_, lan_line pb17 rb17 hp (at17 tx n p hp ha) (by omega) ww (by rw [← at_where ha]; exact q3)⟩)
      · have := kw tx n p ha k
        rw [show KT tx n p = 4 by omega]; rfl
      · have := kw tx n p ha k
        unfold lineV
        rw [if_pos (by omega)]
    · -- chance
      refine ⟨⟨rfl, pb17, by have := rb17.1; omega, rb17.1.2⟩, fun m3 a q3 => ⟨⟨rfl, q3.1, rr (by omega), rr (by omega)⟩, fun m4 x q4 => ?_⟩⟩
      have q3' : Q_X11_numbered 201 0 (m17 204 0 - 1) m17 m3 a := q3
      have ra := (num_r q3' (by rw [e17]; omega)).1
      rw [e17] at ra
      have e4 : m4 204 = μ 204 := by rw [q4.2.2.1, q3'.2.2.1, e17]
      have u := upd m4 (10 + a) x q4.1
      refine ⟨by omega, vc_X11_aLine_129 (close _ u.1 ((q3'.2.1.trans q4.2.1).trans u.2) (by rw [ru_ne (by omega), q4.2.2.2.1]; exact q3'.2.2.2.1) (cells m4 (10 + a) x e4 (by omega)) (fun tx n p hp ha k => ⟨2, _, by omega, ?_, fun v => ?_, plc_line (f := 4) pb17 rb17.1 hp (at17 tx n p hp ha) (by omega) ww q3' q4 (by omega) (Or.inl ⟨rfl, rfl⟩)⟩))⟩
      · have := kw tx n p ha k
        rw [show KT tx n p = 5 by omega]; rfl
      · have := kw tx n p ha k
        unfold lineV
        rw [if_neg (by omega), if_pos (by omega)]
    · -- dog
      refine ⟨⟨rfl, pb17, by have := rb17.1; omega, rb17.1.2⟩, fun m3 a q3 => ⟨⟨rfl, q3.1, rr (by omega), rr (by omega)⟩, fun m4 x q4 => ?_⟩⟩
      have q3' : Q_X11_numbered 201 0 (m17 204 0 - 1) m17 m3 a := q3
      have ra := (num_r q3' (by rw [e17]; omega)).1
      rw [e17] at ra
      have e4 : m4 204 = μ 204 := by rw [q4.2.2.1, q3'.2.2.1, e17]
      have u := upd m4 (20 + a) x q4.1
      refine ⟨by omega, vc_X11_aLine_153 (close _ u.1 ((q3'.2.1.trans q4.2.1).trans u.2) (by rw [ru_ne (by omega), q4.2.2.2.1]; exact q3'.2.2.2.1) (cells m4 (20 + a) x e4 (by omega)) (fun tx n p hp ha k => ⟨2, _, by omega, ?_, fun v => ?_, plc_line (f := 5) pb17 rb17.1 hp (at17 tx n p hp ha) (by omega) ww q3' q4 (by omega) (Or.inr (Or.inl ⟨rfl, rfl⟩))⟩))⟩
      · have := kw tx n p ha k
        rw [show KT tx n p = 6 by omega]; rfl
      · have := kw tx n p ha k
        unfold lineV
        rw [if_neg (by omega), if_neg (by omega), if_pos (by omega)]
    · -- dig
      refine ⟨⟨rfl, pb17, by have := rb17.1; omega, rb17.1.2⟩, fun m3 a q3 => ⟨⟨rfl, q3.1, rr (by omega), rr (by omega)⟩, fun m4 x q4 => ?_⟩⟩
      have q3' : Q_X11_numbered 201 0 (m17 204 0 - 1) m17 m3 a := q3
      have ra := (num_r q3' (by rw [e17]; omega)).1
      rw [e17] at ra
      have e4 : m4 204 = μ 204 := by rw [q4.2.2.1, q3'.2.2.1, e17]
      have u := upd m4 (30 + a) x q4.1
      refine ⟨by omega, vc_X11_aLine_177 (close _ u.1 ((q3'.2.1.trans q4.2.1).trans u.2) (by rw [ru_ne (by omega), q4.2.2.2.1]; exact q3'.2.2.2.1) (cells m4 (30 + a) x e4 (by omega)) (fun tx n p hp ha k => ⟨2, _, by omega, ?_, fun v => ?_, plc_line (f := 6) pb17 rb17.1 hp (at17 tx n p hp ha) (by omega) ww q3' q4 (by omega) (Or.inr (Or.inr ⟨rfl, rfl⟩))⟩))⟩
      · have := kw tx n p ha k
        rw [show KT tx n p = 7 by omega]; rfl
      · have := kw tx n p ha k
        unfold lineV
        rw [if_neg (by omega), if_neg (by omega), if_neg (by omega), if_pos (by omega)]
    · -- prize
      refine ⟨⟨rfl, pb17, rr (by omega), rr (by omega)⟩, fun m3 x q3 => ?_⟩
      have e3 : m3 204 = μ 204 := by rw [q3.2.2.1, e17]
      have u := upd m3 2 x q3.1
      refine vc_X11_aLine_194 (close _ u.1 (q3.2.1.trans u.2) (by rw [ru_ne (by omega)]; exact q3.2.2.2.1) (cells m3 2 x e3 (by omega)) (fun tx n p hp ha k => ⟨1, _, by omega, ?_, fun v => ?_, onl_line pb17 hp (at17 tx n p hp ha) (by omega) ww q3 (Or.inl ⟨rfl, rfl⟩)⟩))
      · have := kw tx n p ha k
        rw [show KT tx n p = 8 by omega]; rfl
      · have := kw tx n p ha k
        unfold lineV
        rw [if_neg (by omega), if_neg (by omega), if_neg (by omega), if_neg (by omega), if_pos (by omega)]
  refine ⟨rr (by omega), fun f => main μ (if_neg f).symm, fun f => ⟨⟨rfl, hb.1, (r3 μ hb).1, (r3 μ hb).2, rr (by omega), rr (by omega)⟩, fun m1 q => main m1 ?_⟩⟩
  rw [if_pos (Classical.not_not.mp f)]
  exact q
theorem ct_X11_aLine : Ct mX11_aLine 7 158 0 0 (nrmS S_X11_aLine) := by
  refine ct_vm (own := RX11) (by decide +kernel) rfl ?_ ?_
  · intro as μ Q hS
    unfold S_X11_aLine at hS
    split at hS
    · exact Nat.le_of_ble_eq_true rfl
    · exact hS.elim
  · intro as μ R hS
    unfold S_X11_aLine at hS
    split at hS
    · exact body_X11_aLine hS.1 hS.2
    · exact hS.elim
