def P_X11_takes (o f : Int) (μ : Mem) : Prop := o = 201 ∧ (f = 0 ∨ f = 1) ∧ (0 ≤ μ 201 27 ∧ μ 201 27 ≤ 9223372036854775807) ∧ (1 ≤ μ 201 28 ∧ μ 201 28 ≤ 9223372036854775807) ∧ (f = 0 → (0 ≤ μ 201 47 ∧ μ 201 47 ≤ 9223372036854775807) ∧ (1 ≤ μ 201 48 ∧ μ 201 48 ≤ 9223372036854775807))
def Q_X11_takes (_ f : Int) (μ μ' : Mem) (r : Int) : Prop := ((r = 1 ∧ (f = 1 ∨ μ 201 27 * μ 201 48 < μ 201 47 * μ 201 28) ∧ μ' 201 47 = μ 201 27 ∧ μ' 201 48 = μ 201 28) ∨ (r = 0 ∧ f = 0 ∧ ¬ μ 201 27 * μ 201 48 < μ 201 47 * μ 201 28 ∧ μ' 201 47 = μ 201 47 ∧ μ' 201 48 = μ 201 48)) ∧ (∀ g : Int, g ≠ 47 → g ≠ 48 → μ' 201 g = μ 201 g) ∧ ∀ z : Int, z ≠ 201 → μ' z = μ z
def S_X11_takes : S0t := fun as μ Q => match as with
  | [(2, x0), (0, x1)] => P_X11_takes x0 x1 μ ∧ ∀ (μ' : Mem) (r : Int), Q_X11_takes x0 x1 μ μ' r → Q μ' (some (kI r))
  | _ => False
theorem mono_X11_takes : Mono S_X11_takes := by
  intro as μ Q Q' h hS
  unfold S_X11_takes at hS ⊢
  split at hS
  · exact ⟨hS.1, fun μ' r q => h _ _ (hS.2 _ _ q)⟩
  · exact hS.elim
def iX11_takes : Inf := (kX11_takes, fTX11, pTX11, cTX11, lTX11, sTX11, [(429, 1, 4, 0, S_X11_isLess)])
theorem ok_X11_takes : infOK iX11_takes mX11_takes RX11 1 40 := ⟨kkX11_takes, fTX11_ok, pTX11_ok _, cTX11_ok, lTX11_ok, sTX11_ok, c_cons ⟨mX11_isLess, 0, 0, ct_X11_isLess, mmX11_isLess, stX11_isLess, lkX11_429, ⟨by decide, by decide⟩, mono_X11_isLess⟩ (c_nil)⟩
theorem mt_X11_takes : mtOK [] RX11 1 40 := mt_nil
abbrev V_X11_takes (R : Mem → Option AV → Prop) (pc : Nat) (lc : List (Nat × AV)) (μ : Mem) : Prop := VM mX11_takes RX11 1 40 R pc lc [] μ
set_option maxRecDepth 20000 in
theorem vc_X11_takes_0 {R : Mem → Option AV → Prop} {f : Int} {μ : Mem} (H : r32 f ∧ ((¬ f = 0) → V_X11_takes R 36 [(0, kR 201)] (updm μ 201 47 (μ 201 27))) ∧ (¬ (¬ f = 0) → P_X11_isLess (μ 201 27) (μ 201 28) (μ 201 47) (μ 201 48) μ ∧ r32 (F_X11_isLess (μ 201 27) (μ 201 28) (μ 201 47) (μ 201 48) μ) ∧ ((¬ (F_X11_isLess (μ 201 27) (μ 201 28) (μ 201 47) (μ 201 48) μ) = 0) → V_X11_takes R 36 [(0, kR 201)] (updm μ 201 47 (μ 201 27))) ∧ (¬ (¬ (F_X11_isLess (μ 201 27) (μ 201 28) (μ 201 47) (μ 201 48) μ) = 0) → R μ (some (kI 0))))) : V_X11_takes R 0 [(0, kR 201), (1, kI f)] μ := by
  refine vm_step2 mt_X11_takes ok_X11_takes [(36, [0]), (44, [])] 1000 ?_
  show r32 f ∧ ((¬ f = 0) → isC 201 11 ∧ isC 201 11 ∧ 1 = 1 ∧ True ∧ V_X11_takes R 36 [(0, kR 201)] (updm μ 201 47 (μ 201 27))) ∧ (¬ (¬ f = 0) → isC 201 11 ∧ isC 201 11 ∧ isC 201 11 ∧ isC 201 11 ∧ P_X11_isLess (μ 201 27) (μ 201 28) (μ 201 47) (μ 201 48) μ ∧ r32 (F_X11_isLess (μ 201 27) (μ 201 28) (μ 201 47) (μ 201 48) μ) ∧ ((¬ (F_X11_isLess (μ 201 27) (μ 201 28) (μ 201 47) (μ 201 48) μ) = 0) → isC 201 11 ∧ isC 201 11 ∧ 1 = 1 ∧ True ∧ V_X11_takes R 36 [(0, kR 201)] (updm μ 201 47 (μ 201 27))) ∧ (¬ (¬ (F_X11_isLess (μ 201 27) (μ 201 28) (μ 201 47) (μ 201 48) μ) = 0) → (0 ≤ (0 : Int) ∧ (0 : Int) ≤ 1) ∧ R μ (some (kI 0))))
  exact ⟨H.1, fun hc2 => ⟨c_201, ⟨c_201, rfl, trivial, (H.2.1 hc2)⟩⟩, fun hc2 => ⟨c_201, ⟨c_201, ⟨c_201, ⟨c_201, ⟨(H.2.2 hc2).1, ⟨(H.2.2 hc2).2.1, fun hc1 => ⟨c_201, ⟨c_201, rfl, trivial, ((H.2.2 hc2).2.2.1 hc1)⟩⟩, fun hc1 => ⟨⟨by omega, by omega⟩, ((H.2.2 hc2).2.2.2 hc1)⟩⟩⟩⟩⟩⟩⟩⟩
set_option maxRecDepth 20000 in
theorem vc_X11_takes_36 {R : Mem → Option AV → Prop} {μ : Mem} (H : V_X11_takes R 44 [] (updm μ 201 48 (μ 201 28))) : V_X11_takes R 36 [(0, kR 201)] μ := by
  refine vm_step2 mt_X11_takes ok_X11_takes [(36, [0]), (44, [])] 1000 ?_
  show isC 201 11 ∧ isC 201 11 ∧ 1 = 1 ∧ True ∧ V_X11_takes R 44 [] (updm μ 201 48 (μ 201 28))
  exact ⟨c_201, ⟨c_201, rfl, trivial, H⟩⟩
set_option maxRecDepth 20000 in
theorem vc_X11_takes_44 {R : Mem → Option AV → Prop} {μ : Mem} (H : R μ (some (kI 1))) : V_X11_takes R 44 [] μ := by
  refine vm_step2 mt_X11_takes ok_X11_takes [(36, [0]), (44, [])] 1000 ?_
  show (0 ≤ (1 : Int) ∧ (1 : Int) ≤ 1) ∧ R μ (some (kI 1))
  exact ⟨⟨by omega, by omega⟩, H⟩
theorem body_X11_takes {o f : Int} {μ : Mem} {R : Mem → Option AV → Prop} (h : P_X11_takes o f μ) (hR : ∀ (μ' : Mem) (r : Int), Q_X11_takes o f μ μ' r → R μ' (some (kI r))) : V_X11_takes R 0 [(0, kR o), (1, kI f)] μ := by
  obtain ⟨rfl, hf, h27, h28, hl⟩ := h
  have take : (f = 1 ∨ μ 201 27 * μ 201 48 < μ 201 47 * μ 201 28) → V_X11_takes R 36 [(0, kR 201)] (updm μ 201 47 (μ 201 27)) := fun q => by
    refine vc_X11_takes_36 (vc_X11_takes_44 (hR _ 1 ⟨Or.inl ⟨rfl, q, ?_, ?_⟩, fun g a b => ?_, fun z z0 => ?_⟩))
    · rw [ru_eq, r1_ne (by omega), ru_eq, r1_eq]
    · rw [ru_eq, r1_eq, ru_eq, r1_ne (by omega)]
    · rw [ru_eq, r1_ne b, ru_eq, r1_ne a]
    · rw [ru_ne z0, ru_ne z0]
  refine vc_X11_takes_0 ⟨rr (by omega), fun c => take (Or.inl (by omega)), fun c => ?_⟩
  have c0 := Classical.not_not.mp c
  unfold F_X11_isLess lessI
  refine ⟨⟨h27, h28, (hl c0).1, (hl c0).2⟩, ?_⟩
  by_cases q : μ 201 27 * μ 201 48 < μ 201 47 * μ 201 28
  · rw [if_pos q]
    exact ⟨rr (by omega), fun _ => take (Or.inr q), fun d => absurd (show ¬ (1 : Int) = 0 by omega) d⟩
  · rw [if_neg q]
    exact ⟨rr (by omega), fun d => absurd rfl d, fun _ => hR μ 0 ⟨Or.inr ⟨rfl, c0, q, rfl, rfl⟩, fun _ _ _ => rfl, fun _ _ => rfl⟩⟩
theorem ct_X11_takes : Ct mX11_takes 1 40 0 0 (nrmS S_X11_takes) := by
  refine ct_vm (own := RX11) (by decide +kernel) rfl ?_ ?_
  · intro as μ Q hS
    unfold S_X11_takes at hS
    split at hS
    · exact Nat.le_of_ble_eq_true rfl
    · exact hS.elim
  · intro as μ R hS
    unfold S_X11_takes at hS
    split at hS
    · exact body_X11_takes hS.1 hS.2
    · exact hS.elim
def P_X11_kernels (o n : Int) (μ : Mem) : Prop := o = 201 ∧ SOk (stM μ) ∧ r32 n
def KSz (μ : Mem) (s : Int) : Prop := (1 ≤ μ 201 22 ∧ μ 201 22 ≤ popc s) ∧ Pk (μ 201 22) (popc s) (μ 211) ∧ Pk (μ 201 22) 24 (μ 212)
def Q_X11_kernels (_ n : Int) (μ μ' : Mem) (r : Int) : Prop := (∀ z : Int, z ≠ 201 → z ≠ 205 → z ≠ 206 → (z < 209 ∨ 214 < z) → μ' z = μ z) ∧ (¬ (0 ≤ n ∧ n < μ 202 0) → r = 0) ∧ (0 ≤ n ∧ n < μ 202 0 → LK μ' ∧ vm μ' = (stM μ).1.2.2 n ∧ ((¬ canG (vm μ') ∧ r = 0) ∨ (canG (vm μ') ∧ r = 1 ∧ gameV (vm μ') = KSv μ' ∧ KSz μ' (awayV (vm μ')))))
def S_X11_kernels : S0t := fun as μ Q => match as with
  | [(2, x0), (0, x1)] => P_X11_kernels x0 x1 μ ∧ ∀ (μ' : Mem) (r : Int), Q_X11_kernels x0 x1 μ μ' r → Q μ' (some (kI r))
  | _ => False
theorem mono_X11_kernels : Mono S_X11_kernels := by
  intro as μ Q Q' h hS
  unfold S_X11_kernels at hS ⊢
  split at hS
  · exact ⟨hS.1, fun μ' r q => h _ _ (hS.2 _ _ q)⟩
  · exact hS.elim
def iX11_kernels : Inf := (kX11_kernels, fTX11, pTX11, cTX11, lTX11, sTX11, [(234, 0, 1, 11, S_X11_looks), (162, 1, 3, 0, S_X11_isIn), (306, 0, 0, 11, S_X11_searches)])
theorem ok_X11_kernels : infOK iX11_kernels mX11_kernels RX11 5 124 := ⟨kkX11_kernels, fTX11_ok, pTX11_ok _, cTX11_ok, lTX11_ok, sTX11_ok, c_cons ⟨mX11_looks, 2, 45, ct_X11_looks, mmX11_looks, vvX11_looks, lkX11_234, ⟨by decide, by decide⟩, ⟨_, _, rfl⟩, by decide, mono_X11_looks⟩ (c_cons ⟨mX11_isIn, 0, 0, ct_X11_isIn, mmX11_isIn, stX11_isIn, lkX11_162, ⟨by decide, by decide⟩, mono_X11_isIn⟩ (c_cons ⟨mX11_searches, 4, 101, ct_X11_searches, mmX11_searches, vvX11_searches, lkX11_306, ⟨by decide, by decide⟩, ⟨_, _, rfl⟩, by decide, mono_X11_searches⟩ (c_nil)))⟩
theorem mt_X11_kernels : mtOK [] RX11 5 124 := mt_nil
abbrev V_X11_kernels (R : Mem → Option AV → Prop) (pc : Nat) (lc : List (Nat × AV)) (μ : Mem) : Prop := VM mX11_kernels RX11 5 124 R pc lc [] μ
set_option maxRecDepth 20000 in
theorem vc_X11_kernels_0 {R : Mem → Option AV → Prop} {n : Int} {μ : Mem} (H : P_X11_looks 201 n μ ∧ (∀ (μ1 : Mem) (rv2 : Int), Q_X11_looks 201 n μ μ1 rv2 → r32 rv2 ∧ ((rv2 = 0) → R μ1 (some (kI 0))) ∧ (¬ (rv2 = 0) → P_X11_isIn (μ1 201 14) 1 4 μ1 ∧ r32 (F_X11_isIn (μ1 201 14) 1 4 μ1) ∧ (((F_X11_isIn (μ1 201 14) 1 4 μ1) = 0) → R μ1 (some (kI 0))) ∧ (¬ ((F_X11_isIn (μ1 201 14) 1 4 μ1) = 0) → P_X11_searches 201 μ1 ∧ (∀ (μ4 : Mem) (rv5 : Int), Q_X11_searches 201 μ1 μ4 rv5 → r32 rv5 ∧ ((rv5 = 0) → R μ4 (some (kI 0))) ∧ (¬ (rv5 = 0) → R μ4 (some (kI 1)))))))) : V_X11_kernels R 0 [(0, kR 201), (1, kI n)] μ := by
  refine vm_step2 mt_X11_kernels ok_X11_kernels [] 1000 ?_
  show isC 201 11 ∧ P_X11_looks 201 n μ ∧ (∀ (μ1 : Mem) (rv2 : Int), Q_X11_looks 201 n μ μ1 rv2 → r32 rv2 ∧ ((rv2 = 0) → (0 ≤ (0 : Int) ∧ (0 : Int) ≤ 1) ∧ R μ1 (some (kI 0))) ∧ (¬ (rv2 = 0) → isC 201 11 ∧ P_X11_isIn (μ1 201 14) 1 4 μ1 ∧ r32 (F_X11_isIn (μ1 201 14) 1 4 μ1) ∧ (((F_X11_isIn (μ1 201 14) 1 4 μ1) = 0) → (0 ≤ (0 : Int) ∧ (0 : Int) ≤ 1) ∧ R μ1 (some (kI 0))) ∧ (¬ ((F_X11_isIn (μ1 201 14) 1 4 μ1) = 0) → isC 201 11 ∧ P_X11_searches 201 μ1 ∧ (∀ (μ4 : Mem) (rv5 : Int), Q_X11_searches 201 μ1 μ4 rv5 → r32 rv5 ∧ ((rv5 = 0) → (0 ≤ (0 : Int) ∧ (0 : Int) ≤ 1) ∧ R μ4 (some (kI 0))) ∧ (¬ (rv5 = 0) → (0 ≤ (1 : Int) ∧ (1 : Int) ≤ 1) ∧ R μ4 (some (kI 1)))))))
  exact ⟨c_201, H.1, fun μ1 rv2 hq3 => ⟨(H.2 μ1 rv2 hq3).1, fun hc9 => ⟨⟨by omega, by omega⟩, ((H.2 μ1 rv2 hq3).2.1 hc9)⟩, fun hc9 => ⟨c_201, ⟨((H.2 μ1 rv2 hq3).2.2 hc9).1, ⟨((H.2 μ1 rv2 hq3).2.2 hc9).2.1, fun hc8 => ⟨⟨by omega, by omega⟩, (((H.2 μ1 rv2 hq3).2.2 hc9).2.2.1 hc8)⟩, fun hc8 => ⟨c_201, (((H.2 μ1 rv2 hq3).2.2 hc9).2.2.2 hc8).1, fun μ4 rv5 hq6 => ⟨((((H.2 μ1 rv2 hq3).2.2 hc9).2.2.2 hc8).2 μ4 rv5 hq6).1, fun hc7 => ⟨⟨by omega, by omega⟩, (((((H.2 μ1 rv2 hq3).2.2 hc9).2.2.2 hc8).2 μ4 rv5 hq6).2.1 hc7)⟩, fun hc7 => ⟨⟨by omega, by omega⟩, (((((H.2 μ1 rv2 hq3).2.2 hc9).2.2.2 hc8).2 μ4 rv5 hq6).2.2 hc7)⟩⟩⟩⟩⟩⟩⟩⟩
theorem sameW_m {v : TV} {W : Int → Int → Int} {s : Int} (ok : TVok v) (hs : ∀ a : Int, 0 ≤ a → a < 8 → hasB s a = true → hasB (awayV v) a = true) (hW : ∀ a b : Int, 0 ≤ a → a < v 0 0 → 0 ≤ b → b < v 0 0 → W a b = wayV v a b) : sameW (wayV v) W s := fun a b a0 a1 ha b0 b1 hb => by
  have hp := ok.1
  have h2 := away_in ok b b0 b1 (hs b b0 b1 hb)
  refine (hW a b a0 ?_ b0 h2).symm
  rcases ha with e | e
  · omega
  · exact away_in ok a a0 a1 (hs a a0 a1 e)
theorem LK_gp {μ : Mem} (h : LK μ) (cg : canG (vm μ)) : GPm μ (awayV (vm μ)) ∧ gv (Wm μ) (awayV (vm μ)) = gameV (vm μ) := by
  have ok := h.1.v
  have hj := h.1.2.2.2.1
  have sw := sameW_m (W := Wm μ) (s := awayV (vm μ)) ok (fun _ _ _ q => q) (fun a b a0 a1 b0 b1 => h.2.1 a b a0 a1 b0 b1)
  refine ⟨⟨away_bd ok, cg, h.2.2, GW_W sw (gw_way ok hj (fun _ _ _ q => q))⟩, ?_⟩
  exact (gv_congr cg.2 sw).symm
theorem LK_frame {μ m : Mem} (h : LK μ) (h2 : m 202 = μ 202) (hf : ∀ f : Int, (f = 12 ∨ f = 13 ∨ f = 14) → m 201 f = μ 201 f) (h5 : m 205 = μ 205) (h6 : m 206 = μ 206) : LK m ∧ vm m = vm μ := by
  obtain ⟨mb, ev⟩ := MB_frame h.1 h2 (hf 12 (by omega)) (hf 13 (by omega))
  refine ⟨⟨mb, ?_, ?_⟩, ev⟩
  · rw [ev]
    intro a b a0 a1 b0 b1
    rw [h6]
    exact h.2.1 a b a0 a1 b0 b1
  · rw [ev]
    unfold CR
    rw [hf 14 (by omega), h5]
    exact h.2.2
theorem body_X11_kernels {o n : Int} {μ : Mem} {R : Mem → Option AV → Prop} (h : P_X11_kernels o n μ) (hR : ∀ (μ' : Mem) (r : Int), Q_X11_kernels o n μ μ' r → R μ' (some (kI r))) : V_X11_kernels R 0 [(0, kR o), (1, kI n)] μ := by
  obtain ⟨rfl, hs, r_n⟩ := h
  refine vc_X11_kernels_0 ⟨⟨rfl, hs, r_n⟩, fun m rv q => ?_⟩
  obtain ⟨q1, q3, q4⟩ := q
  by_cases c : 0 ≤ n ∧ n < μ 202 0
  · obtain ⟨rfl, hl, hv⟩ := q4 c
    have hpb := popc_bd (s := awayV (vm m))
    have h14 := hl.2.2.1
    have ik := isIn_r (x := m 201 14) (lo := 1) (hi := 4) (μ := m)
    refine ⟨rr (by omega), fun q => absurd q (by omega), fun _ => ⟨⟨rr (by omega), rr (by omega), rr (by omega)⟩, rr (by omega), fun d => ?_, fun d => ?_⟩⟩
    · refine hR m 0 ⟨fun z a b c _ => q1 z a b c, fun _ => rfl, fun _ => ⟨hl, hv, Or.inl ⟨fun cg => ?_, rfl⟩⟩⟩
      exact isIn_1.mpr (by rw [h14]; exact cg) d
    · have cg : canG (vm m) := by
        have := isIn_1.mp d
        rw [h14] at this
        exact this
      obtain ⟨gp, eg⟩ := LK_gp hl cg
      refine ⟨⟨rfl, _, gp⟩, fun m4 rv5 g => ?_⟩
      obtain ⟨rfl, g2, g3, g4⟩ := g
      obtain ⟨x1, x2⟩ := g2 _ gp
      have ff : ∀ f : Int, (f = 12 ∨ f = 13 ∨ f = 14) → m4 201 f = m 201 f := fun f hf => g3 f (by rcases hf with e | e | e <;> subst e <;> decide)
      obtain ⟨hl4, ev⟩ := LK_frame hl (g4 202 (by omega) (by omega)) ff (g4 205 (by omega) (by omega)) (g4 206 (by omega) (by omega))
      refine ⟨rr (by omega), fun q => absurd q (by omega), fun _ => hR m4 1 ⟨fun z a b c d => by rw [g4 z a d, q1 z a b c], fun q => absurd c q, fun _ => ⟨hl4, by rw [ev]; exact hv, Or.inr ?_⟩⟩⟩
      rw [ev]
      exact ⟨cg, rfl, by rw [← eg]; exact x1, x2⟩
  · have e := q3 c
    subst e
    exact ⟨rr (by omega), fun _ => hR m 0 ⟨fun z a b c _ => q1 z a b c, fun _ => rfl, fun q => absurd q c⟩, fun q => absurd rfl q⟩
theorem ct_X11_kernels : Ct mX11_kernels 5 124 0 0 (nrmS S_X11_kernels) := by
  refine ct_vm (own := RX11) (by decide +kernel) rfl ?_ ?_
  · intro as μ Q hS
    unfold S_X11_kernels at hS
    split at hS
    · exact Nat.le_of_ble_eq_true rfl
    · exact hS.elim
  · intro as μ R hS
    unfold S_X11_kernels at hS
    split at hS
    · exact body_X11_kernels hS.1 hS.2
    · exact hS.elim
def P_X11_both (o n k : Int) (μ : Mem) : Prop := o = 201 ∧ SOk (stM μ) ∧ r32 n ∧ r32 k
def Q_X11_both (_ n k : Int) (μ μ' : Mem) (r : Int) : Prop := AskM μ μ' ∧ r = onT (stM μ).1 n (-1000000000000) (bothT k)
def S_X11_both : S0t := fun as μ Q => match as with
  | [(2, x0), (0, x1), (0, x2)] => P_X11_both x0 x1 x2 μ ∧ ∀ (μ' : Mem) (r : Int), Q_X11_both x0 x1 x2 μ μ' r → Q μ' (some (kL r))
  | _ => False
theorem mono_X11_both : Mono S_X11_both := by
  intro as μ Q Q' h hS
  unfold S_X11_both at hS ⊢
  split at hS
  · exact ⟨hS.1, fun μ' r q => h _ _ (hS.2 _ _ q)⟩
  · exact hS.elim
def iX11_both : Inf := (kX11_both, fTX11, pTX11, cTX11, lTX11, sTX11, [(324, 0, 1, 11, S_X11_kernels), (162, 1, 3, 0, S_X11_isIn)])
theorem ok_X11_both : infOK iX11_both mX11_both RX11 6 145 := ⟨kkX11_both, fTX11_ok, pTX11_ok _, cTX11_ok, lTX11_ok, sTX11_ok, c_cons ⟨mX11_kernels, 5, 124, ct_X11_kernels, mmX11_kernels, vvX11_kernels, lkX11_324, ⟨by decide, by decide⟩, ⟨_, _, rfl⟩, by decide, mono_X11_kernels⟩ (c_cons ⟨mX11_isIn, 0, 0, ct_X11_isIn, mmX11_isIn, stX11_isIn, lkX11_162, ⟨by decide, by decide⟩, mono_X11_isIn⟩ (c_nil))⟩
theorem mt_X11_both : mtOK [] RX11 6 145 := mt_nil
abbrev V_X11_both (R : Mem → Option AV → Prop) (pc : Nat) (lc : List (Nat × AV)) (μ : Mem) : Prop := VM mX11_both RX11 6 145 R pc lc [] μ
set_option maxRecDepth 20000 in
theorem vc_X11_both_0 {R : Mem → Option AV → Prop} {n k : Int} {μ : Mem} (H : P_X11_kernels 201 n μ ∧ (∀ (μ1 : Mem) (rv2 : Int), Q_X11_kernels 201 n μ μ1 rv2 → r32 rv2 ∧ ((¬ rv2 = 0) → P_X11_isIn k 10 (9 + (μ1 201 13)) μ1 ∧ r32 (F_X11_isIn k 10 (9 + (μ1 201 13)) μ1) ∧ (((F_X11_isIn k 10 (9 + (μ1 201 13)) μ1) = 0) → r32 k ∧ ((¬ k = 0) → r32 k ∧ ((¬ k = (1 : Int)) → r32 k ∧ ((¬ k = (2 : Int)) → R μ1 (some (kL (-1000000000000)))) ∧ (¬ (¬ k = (2 : Int)) → r32 (μ1 201 22) ∧ R μ1 (some (kL (μ1 201 22))))) ∧ (¬ (¬ k = (1 : Int)) → R μ1 (some (kL (μ1 201 28))))) ∧ (¬ (¬ k = 0) → R μ1 (some (kL (μ1 201 27))))) ∧ (¬ ((F_X11_isIn k 10 (9 + (μ1 201 13)) μ1) = 0) → V_X11_both R 33 [(0, kR 201), (2, kI k), (3, kL 0), (5, kI 0)] μ1)) ∧ (¬ (¬ rv2 = 0) → R μ1 (some (kL (-1000000000000)))))) : V_X11_both R 0 [(0, kR 201), (1, kI n), (2, kI k)] μ := by
  refine vm_step2 mt_X11_both ok_X11_both [(33, [0, 2, 3, 5])] 1000 ?_
  show isC 201 11 ∧ P_X11_kernels 201 n μ ∧ (∀ (μ1 : Mem) (rv2 : Int), Q_X11_kernels 201 n μ μ1 rv2 → r32 rv2 ∧ ((¬ rv2 = 0) → isC 201 11 ∧ P_X11_isIn k 10 (9 + (μ1 201 13)) μ1 ∧ r32 (F_X11_isIn k 10 (9 + (μ1 201 13)) μ1) ∧ (((F_X11_isIn k 10 (9 + (μ1 201 13)) μ1) = 0) → r32 k ∧ ((¬ k = 0) → (r32 k ∧ r32 (1 : Int)) ∧ ((¬ k = (1 : Int)) → (r32 k ∧ r32 (2 : Int)) ∧ ((¬ k = (2 : Int)) → R μ1 (some (kL (-1000000000000)))) ∧ (¬ (¬ k = (2 : Int)) → isC 201 11 ∧ r32 (μ1 201 22) ∧ R μ1 (some (kL (μ1 201 22))))) ∧ (¬ (¬ k = (1 : Int)) → isC 201 11 ∧ R μ1 (some (kL (μ1 201 28))))) ∧ (¬ (¬ k = 0) → isC 201 11 ∧ R μ1 (some (kL (μ1 201 27))))) ∧ (¬ ((F_X11_isIn k 10 (9 + (μ1 201 13)) μ1) = 0) → V_X11_both R 33 [(0, kR 201), (2, kI k), (3, kL 0), (5, kI 0)] μ1)) ∧ (¬ (¬ rv2 = 0) → R μ1 (some (kL (-1000000000000)))))
  exact ⟨c_201, H.1, fun μ1 rv2 hq3 => ⟨(H.2 μ1 rv2 hq3).1, fun hc8 => ⟨c_201, ⟨((H.2 μ1 rv2 hq3).2.1 hc8).1, ⟨((H.2 μ1 rv2 hq3).2.1 hc8).2.1, fun hc7 => ⟨(((H.2 μ1 rv2 hq3).2.1 hc8).2.2.1 hc7).1, fun hc6 => ⟨⟨((((H.2 μ1 rv2 hq3).2.1 hc8).2.2.1 hc7).2.1 hc6).1, by unfold r32; omega⟩, fun hc5 => ⟨⟨(((((H.2 μ1 rv2 hq3).2.1 hc8).2.2.1 hc7).2.1 hc6).2.1 hc5).1, by unfold r32; omega⟩, fun hc4 => ((((((H.2 μ1 rv2 hq3).2.1 hc8).2.2.1 hc7).2.1 hc6).2.1 hc5).2.1 hc4), fun hc4 => ⟨c_201, ⟨((((((H.2 μ1 rv2 hq3).2.1 hc8).2.2.1 hc7).2.1 hc6).2.1 hc5).2.2 hc4).1, ((((((H.2 μ1 rv2 hq3).2.1 hc8).2.2.1 hc7).2.1 hc6).2.1 hc5).2.2 hc4).2⟩⟩⟩, fun hc5 => ⟨c_201, (((((H.2 μ1 rv2 hq3).2.1 hc8).2.2.1 hc7).2.1 hc6).2.2 hc5)⟩⟩, fun hc6 => ⟨c_201, ((((H.2 μ1 rv2 hq3).2.1 hc8).2.2.1 hc7).2.2 hc6)⟩⟩, fun hc7 => (((H.2 μ1 rv2 hq3).2.1 hc8).2.2.2 hc7)⟩⟩⟩, fun hc8 => ((H.2 μ1 rv2 hq3).2.2 hc8)⟩⟩
set_option maxRecDepth 20000 in
theorem vc_X11_both_33 {R : Mem → Option AV → Prop} {k v i : Int} {μ : Mem} (H : r32 i ∧ r32 (μ 201 22) ∧ (((μ 201 22) ≤ i) → R μ (some (kL v))) ∧ (¬ ((μ 201 22) ≤ i) → (0 ≤ i ∧ i < 4) ∧ (0 ≤ (μ 211 i) ∧ (μ 211 i) < 7) ∧ r32 (μ 205 (μ 211 i)) ∧ r32 (k - 10) ∧ ((¬ (μ 205 (μ 211 i)) = (k - 10)) → V_X11_both R 33 [(0, kR 201), (2, kI k), (3, kL v), (5, kI (i + 1))] μ) ∧ (¬ (¬ (μ 205 (μ 211 i)) = (k - 10)) → (0 ≤ i ∧ i < 4) ∧ V_X11_both R 33 [(0, kR 201), (2, kI k), (3, kL (μ 213 i)), (5, kI (i + 1))] μ))) : V_X11_both R 33 [(0, kR 201), (2, kI k), (3, kL v), (5, kI i)] μ := by
  refine vm_step2 mt_X11_both ok_X11_both [(33, [0, 2, 3, 5])] 1000 ?_
  show isC 201 11 ∧ (r32 i ∧ r32 (μ 201 22)) ∧ (((μ 201 22) ≤ i) → R μ (some (kL v))) ∧ (¬ ((μ 201 22) ≤ i) → isC 201 11 ∧ isC 201 11 ∧ inA 211 0 i ∧ inA 205 0 (μ 211 i) ∧ (r32 (μ 205 (μ 211 i)) ∧ r32 (k - 10)) ∧ ((¬ (μ 205 (μ 211 i)) = (k - 10)) → V_X11_both R 33 [(0, kR 201), (2, kI k), (3, kL v), (5, kI (i + 1))] μ) ∧ (¬ (¬ (μ 205 (μ 211 i)) = (k - 10)) → isC 201 11 ∧ inA 213 1 i ∧ V_X11_both R 33 [(0, kR 201), (2, kI k), (3, kL (μ 213 i)), (5, kI (i + 1))] μ))
  exact ⟨c_201, ⟨⟨H.1, H.2.1⟩, fun hc10 => (H.2.2.1 hc10), fun hc10 => ⟨c_201, ⟨c_201, ⟨isArr.in a_211 (H.2.2.2 hc10).1.1 (H.2.2.2 hc10).1.2, ⟨isArr.in a_205 (H.2.2.2 hc10).2.1.1 (H.2.2.2 hc10).2.1.2, ⟨⟨(H.2.2.2 hc10).2.2.1, (H.2.2.2 hc10).2.2.2.1⟩, fun hc9 => ((H.2.2.2 hc10).2.2.2.2.1 hc9), fun hc9 => ⟨c_201, ⟨isArr.in a_213 ((H.2.2.2 hc10).2.2.2.2.2 hc9).1.1 ((H.2.2.2 hc10).2.2.2.2.2 hc9).1.2, ((H.2.2.2 hc10).2.2.2.2.2 hc9).2⟩⟩⟩⟩⟩⟩⟩⟩⟩
theorem Pk_inc {k n a b : Int} {p : Int → Int} (h : Pk k n p) (k4 : k ≤ 4) (a0 : 0 ≤ a) (ab : a < b) (bk : b < k) : p a < p b := by
  unfold Pk at h
  rcases (by omega : a = 0 ∨ a = 1 ∨ a = 2) with e | e | e <;> rcases (by omega : b = 1 ∨ b = 2 ∨ b = 3) with f | f | f <;> subst e <;> subst f <;> omega
theorem body_X11_both {o n k : Int} {μ : Mem} {R : Mem → Option AV → Prop} (h : P_X11_both o n k μ) (hR : ∀ (μ' : Mem) (r : Int), Q_X11_both o n k μ μ' r → R μ' (some (kL r))) : V_X11_both R 0 [(0, kR o), (1, kI n), (2, kI k)] μ := by
  obtain ⟨rfl, hs, r_n, r_k⟩ := h
  refine vc_X11_both_0 ⟨⟨rfl, hs, r_n⟩, fun m rv q => ?_⟩
  obtain ⟨q1, q3, q4⟩ := q
  have ask : AskM μ m := fun z hz => q1 z (by omega) (by omega) (by omega) (by omega)
  by_cases c : 0 ≤ n ∧ n < μ 202 0
  · obtain ⟨hl, hv, hcase⟩ := q4 c
    have hb := hl.1
    have ok := hb.v
    have hp := hb.p
    have hpe := hb.2.1
    have a0 := AskM_0 m
    have fin : ∀ (m' : Mem) (x : Int), AskM m m' → x = (bothT k) (vm m) → R m' (some (kL x)) := fun m' x ha hx => hR m' x ⟨ask.trans ha, by rw [hx, onM_yes c, ← hv]⟩
    unfold bothT at fin
    rcases hcase with ⟨cg, rfl⟩ | ⟨cg, rfl, hg, hk, hcp, hrp⟩
    · exact ⟨rr (by omega), fun q => absurd rfl q, fun _ => fin m _ a0 (if_neg (fun q => cg q)).symm⟩
    · refine ⟨rr (by omega), fun _ => ?_, fun q => absurd (show ¬ (1 : Int) = 0 by omega) q⟩
      rw [if_pos cg] at fin
      have v0 : (gameV (vm m)).1 = m 201 22 := by rw [hg]; rfl
      have v1 : (gameV (vm m)).2.1 = m 201 27 := by rw [hg]; rfl
      have v2 : (gameV (vm m)).2.2.1 = m 201 28 := by rw [hg]; rfl
      have v3 : (gameV (vm m)).2.2.2.1 = clip (m 201 22) (m 211) := by rw [hg]; rfl
      have v5 : (gameV (vm m)).2.2.2.2.2.1 = clip (m 201 22) (m 213) := by rw [hg]; rfl
      have k4 : m 201 22 ≤ 4 := by have := cg.2; omega
      have ir := isIn_r (x := k) (lo := 10) (hi := 9 + m 201 13) (μ := m)
      refine ⟨⟨r_k, rr (by omega), rr (by omega)⟩, rr (by omega), fun d => ?_, fun d => ?_⟩
      · have dd : ¬ (10 ≤ k ∧ k ≤ 9 + m 201 13) := fun q => isIn_1.mpr q d
        refine ⟨r_k, fun c1 => ⟨r_k, fun c2 => ⟨r_k, fun c3 => fin m _ a0 ?_, fun c3 => ⟨rr (by omega), fin m _ a0 ?_⟩⟩, fun c2 => fin m _ a0 ?_⟩, fun c1 => fin m _ a0 ?_⟩
        · rw [if_neg c1, if_neg c2, if_neg c3, if_neg (by omega)]
        · rw [if_neg c1, if_neg c2, if_pos (Classical.not_not.mp c3), v0]
        · rw [if_neg c1, if_pos (Classical.not_not.mp c2), v2]
        · rw [if_pos (Classical.not_not.mp c1), v1]
      · have dd := isIn_1.mp d
        rw [if_neg (by omega), if_neg (by omega), if_neg (by omega), if_pos (by omega)] at fin
        have cel : ∀ i : Int, 0 ≤ i → i < m 201 22 → (0 ≤ m 211 i ∧ m 211 i < popc (awayV (vm m))) ∧ m 205 (m 211 i) = mthV (awayV (vm m)) (m 211 i) := fun i i0 i1 => by
          have := Pk_at hcp (by omega) i0 i1
          exact ⟨⟨this.1, this.2.1⟩, hl.2.2.2 _ this.1 this.2.1⟩
        have inj : ∀ i j : Int, 0 ≤ i → i < j → j < m 201 22 → mthV (awayV (vm m)) (m 211 i) ≠ mthV (awayV (vm m)) (m 211 j) := fun i j i0 ij j1 q => by
          have ci := cel i i0 (by omega)
          have cj := cel j (by omega) j1
          have h1 := mth_cnt ci.1.1 ci.1.2
          have h2 := mth_cnt cj.1.1 cj.1.2
          have h3 := Pk_inc hcp (by omega) i0 ij j1
          rw [q] at h1
          omega
        have key := up_ind (P := fun i => ∀ v : Int, ((∃ j : Int, (0 ≤ j ∧ j < i) ∧ mthV (awayV (vm m)) (m 211 j) = k - 10 ∧ v = m 213 j) ∨ ((∀ j : Int, 0 ≤ j → j < i → mthV (awayV (vm m)) (m 211 j) ≠ k - 10) ∧ v = 0)) → V_X11_both R 33 [(0, kR 201), (2, kI k), (3, kL v), (5, kI i)] m) (lo := 0) (hi := m 201 22) ?_ ?_
        · exact key 0 (by omega) (by omega) 0 (Or.inr ⟨fun j a b => absurd a (by omega), rfl⟩)
        · intro i i0 i1 ih v hv'
          have ci := cel i i0 i1
          have c7 := cg.2
          have m8 := mth_in ci.1.1 ci.1.2
          refine vc_X11_both_33 ?_
          rw [ci.2]
          refine ⟨rr (by omega), rr (by omega), fun q => absurd q (by omega), fun _ => ⟨by omega, by omega, rr (by omega), rr (by have := r_k; unfold r32 at this; omega), fun q => ih v ?_, fun q => ⟨by omega, ih _ (Or.inl ⟨i, by omega, Classical.not_not.mp q, rfl⟩)⟩⟩⟩
          rcases hv' with ⟨j, h1, h2, h3⟩ | ⟨h1, h2⟩
          · exact Or.inl ⟨j, by omega, h2, h3⟩
          · refine Or.inr ⟨fun j a b => ?_, h2⟩
            by_cases e : j = i
            · rw [e]; exact q
            · exact h1 j a (by omega)
        · intro v hv'
          refine vc_X11_both_33 ⟨rr (by omega), rr (by omega), fun _ => fin m _ a0 ?_, fun q => absurd (Int.le_refl _) q⟩
          unfold shareG
          rw [v0, v3, v5]
          rcases frst_cases (fun i => decide (mthV (awayV (vm m)) (clip (m 201 22) (m 211) i) = k - 10)) (show 0 ≤ m 201 22 by omega) with ⟨e, hn⟩ | ⟨j, j0, j1, e, hj, _⟩
          · rw [e, if_pos (by omega)]
            rcases hv' with ⟨j, h1, h2, h3⟩ | ⟨_, h2⟩
            · have := of_decide_eq_false (hn j h1.1 h1.2)
              rw [clip_in h1.1 h1.2] at this
              exact absurd h2 this
            · exact h2
          · rw [e, if_neg (by omega), clip_in j0 j1]
            have hj' := of_decide_eq_true hj
            rw [clip_in j0 j1] at hj'
            rcases hv' with ⟨i, h1, h2, h3⟩ | ⟨h1, _⟩
            · rcases (by omega : i < j ∨ i = j ∨ j < i) with q | q | q
              · exact absurd (h2.trans hj'.symm) (inj i j h1.1 q j1)
              · rw [h3, q]
              · exact absurd (hj'.trans h2.symm) (inj j i j0 q h1.2)
            · exact absurd hj' (h1 j j0 j1)
  · have e := q3 c
    subst e
    exact ⟨rr (by omega), fun q => absurd rfl q, fun _ => hR m _ ⟨ask, (onM_no c).symm⟩⟩
theorem ct_X11_both : Ct mX11_both 6 145 0 0 (nrmS S_X11_both) := by
  refine ct_vm (own := RX11) (by decide +kernel) rfl ?_ ?_
  · intro as μ Q hS
    unfold S_X11_both at hS
    split at hS
    · exact Nat.le_of_ble_eq_true rfl
    · exact hS.elim
  · intro as μ R hS
    unfold S_X11_both at hS
    split at hS
    · exact body_X11_both hS.1 hS.2
    · exact hS.elim
def P_X11_goes (o n a k : Int) (μ : Mem) : Prop := o = 201 ∧ SOk (stM μ) ∧ r32 n ∧ r32 a ∧ r32 k
def Q_X11_goes (_ n a k : Int) (μ μ' : Mem) (r : Int) : Prop := AskM μ μ' ∧ r = onT (stM μ).1 n (-1000000000000) (goesT a k)
def S_X11_goes : S0t := fun as μ Q => match as with
  | [(2, x0), (0, x1), (0, x2), (0, x3)] => P_X11_goes x0 x1 x2 x3 μ ∧ ∀ (μ' : Mem) (r : Int), Q_X11_goes x0 x1 x2 x3 μ μ' r → Q μ' (some (kL r))
  | _ => False
theorem mono_X11_goes : Mono S_X11_goes := by
  intro as μ Q Q' h hS
  unfold S_X11_goes at hS ⊢
  split at hS
  · exact ⟨hS.1, fun μ' r q => h _ _ (hS.2 _ _ q)⟩
  · exact hS.elim
def iX11_goes : Inf := (kX11_goes, fTX11, pTX11, cTX11, lTX11, sTX11, [(162, 1, 3, 0, S_X11_isIn), (324, 0, 1, 11, S_X11_kernels)])
theorem ok_X11_goes : infOK iX11_goes mX11_goes RX11 6 145 := ⟨kkX11_goes, fTX11_ok, pTX11_ok _, cTX11_ok, lTX11_ok, sTX11_ok, c_cons ⟨mX11_isIn, 0, 0, ct_X11_isIn, mmX11_isIn, stX11_isIn, lkX11_162, ⟨by decide, by decide⟩, mono_X11_isIn⟩ (c_cons ⟨mX11_kernels, 5, 124, ct_X11_kernels, mmX11_kernels, vvX11_kernels, lkX11_324, ⟨by decide, by decide⟩, ⟨_, _, rfl⟩, by decide, mono_X11_kernels⟩ (c_nil))⟩
theorem mt_X11_goes : mtOK [] RX11 6 145 := mt_nil
abbrev V_X11_goes (R : Mem → Option AV → Prop) (pc : Nat) (lc : List (Nat × AV)) (μ : Mem) : Prop := VM mX11_goes RX11 6 145 R pc lc [] μ
set_option maxRecDepth 20000 in
theorem vc_X11_goes_0 {R : Mem → Option AV → Prop} {n a k : Int} {μ : Mem} (H : P_X11_isIn k 0 1 μ ∧ r32 (F_X11_isIn k 0 1 μ) ∧ (((F_X11_isIn k 0 1 μ) = 0) → R μ (some (kL (-1000000000000)))) ∧ (¬ ((F_X11_isIn k 0 1 μ) = 0) → P_X11_kernels 201 n μ ∧ (∀ (μ1 : Mem) (rv2 : Int), Q_X11_kernels 201 n μ μ1 rv2 → r32 rv2 ∧ ((rv2 = 0) → R μ1 (some (kL (-1000000000000)))) ∧ (¬ (rv2 = 0) → P_X11_isIn a 0 ((μ1 201 22) - 1) μ1 ∧ r32 (F_X11_isIn a 0 ((μ1 201 22) - 1) μ1) ∧ ((¬ (F_X11_isIn a 0 ((μ1 201 22) - 1) μ1) = 0) → r32 k ∧ ((¬ k = 0) → (0 ≤ a ∧ a < 4) ∧ R μ1 (some (kL (μ1 214 a)))) ∧ (¬ (¬ k = 0) → (0 ≤ a ∧ a < 4) ∧ r32 (μ1 212 a) ∧ R μ1 (some (kL (μ1 212 a))))) ∧ (¬ (¬ (F_X11_isIn a 0 ((μ1 201 22) - 1) μ1) = 0) → R μ1 (some (kL (-1000000000000)))))))) : V_X11_goes R 0 [(0, kR 201), (1, kI n), (2, kI a), (3, kI k)] μ := by
  refine vm_step2 mt_X11_goes ok_X11_goes [] 1000 ?_
  show P_X11_isIn k 0 1 μ ∧ r32 (F_X11_isIn k 0 1 μ) ∧ (((F_X11_isIn k 0 1 μ) = 0) → R μ (some (kL (-1000000000000)))) ∧ (¬ ((F_X11_isIn k 0 1 μ) = 0) → isC 201 11 ∧ P_X11_kernels 201 n μ ∧ (∀ (μ1 : Mem) (rv2 : Int), Q_X11_kernels 201 n μ μ1 rv2 → r32 rv2 ∧ ((rv2 = 0) → R μ1 (some (kL (-1000000000000)))) ∧ (¬ (rv2 = 0) → isC 201 11 ∧ P_X11_isIn a 0 ((μ1 201 22) - 1) μ1 ∧ r32 (F_X11_isIn a 0 ((μ1 201 22) - 1) μ1) ∧ ((¬ (F_X11_isIn a 0 ((μ1 201 22) - 1) μ1) = 0) → r32 k ∧ ((¬ k = 0) → isC 201 11 ∧ inA 214 1 a ∧ R μ1 (some (kL (μ1 214 a)))) ∧ (¬ (¬ k = 0) → isC 201 11 ∧ inA 212 0 a ∧ r32 (μ1 212 a) ∧ R μ1 (some (kL (μ1 212 a))))) ∧ (¬ (¬ (F_X11_isIn a 0 ((μ1 201 22) - 1) μ1) = 0) → R μ1 (some (kL (-1000000000000)))))))
  exact ⟨H.1, ⟨H.2.1, fun hc7 => (H.2.2.1 hc7), fun hc7 => ⟨c_201, (H.2.2.2 hc7).1, fun μ1 rv2 hq3 => ⟨((H.2.2.2 hc7).2 μ1 rv2 hq3).1, fun hc6 => (((H.2.2.2 hc7).2 μ1 rv2 hq3).2.1 hc6), fun hc6 => ⟨c_201, ⟨(((H.2.2.2 hc7).2 μ1 rv2 hq3).2.2 hc6).1, ⟨(((H.2.2.2 hc7).2 μ1 rv2 hq3).2.2 hc6).2.1, fun hc5 => ⟨((((H.2.2.2 hc7).2 μ1 rv2 hq3).2.2 hc6).2.2.1 hc5).1, fun hc4 => ⟨c_201, ⟨isArr.in a_214 (((((H.2.2.2 hc7).2 μ1 rv2 hq3).2.2 hc6).2.2.1 hc5).2.1 hc4).1.1 (((((H.2.2.2 hc7).2 μ1 rv2 hq3).2.2 hc6).2.2.1 hc5).2.1 hc4).1.2, (((((H.2.2.2 hc7).2 μ1 rv2 hq3).2.2 hc6).2.2.1 hc5).2.1 hc4).2⟩⟩, fun hc4 => ⟨c_201, ⟨isArr.in a_212 (((((H.2.2.2 hc7).2 μ1 rv2 hq3).2.2 hc6).2.2.1 hc5).2.2 hc4).1.1 (((((H.2.2.2 hc7).2 μ1 rv2 hq3).2.2 hc6).2.2.1 hc5).2.2 hc4).1.2, ⟨(((((H.2.2.2 hc7).2 μ1 rv2 hq3).2.2 hc6).2.2.1 hc5).2.2 hc4).2.1, (((((H.2.2.2 hc7).2 μ1 rv2 hq3).2.2 hc6).2.2.1 hc5).2.2 hc4).2.2⟩⟩⟩⟩, fun hc5 => ((((H.2.2.2 hc7).2 μ1 rv2 hq3).2.2 hc6).2.2.2 hc5)⟩⟩⟩⟩⟩⟩⟩
theorem body_X11_goes {o n a k : Int} {μ : Mem} {R : Mem → Option AV → Prop} (h : P_X11_goes o n a k μ) (hR : ∀ (μ' : Mem) (r : Int), Q_X11_goes o n a k μ μ' r → R μ' (some (kL r))) : V_X11_goes R 0 [(0, kR o), (1, kI n), (2, kI a), (3, kI k)] μ := by
  obtain ⟨rfl, hs, r_n, r_a, r_k⟩ := h
  have bad : ¬ (0 ≤ k ∧ k ≤ 1) → Q_X11_goes 201 n a k μ μ (-1000000000000) := fun q => by
    refine ⟨AskM_0 μ, ?_⟩
    by_cases c : 0 ≤ n ∧ n < μ 202 0
    · rw [onM_yes c]
      unfold goesT
      rw [if_neg (fun g => q g.2.1)]
    · exact (onM_no c).symm
  have ik := isIn_r (x := k) (lo := 0) (hi := 1) (μ := μ)
  refine vc_X11_goes_0 ⟨⟨r_k, rr (by omega), rr (by omega)⟩, rr (by omega), fun d => hR μ _ (bad (fun q => isIn_1.mpr q d)), fun d0 => ⟨⟨rfl, hs, r_n⟩, fun m rv q => ?_⟩⟩
  have dk := isIn_1.mp d0
  obtain ⟨q1, q3, q4⟩ := q
  have ask : AskM μ m := fun z hz => q1 z (by omega) (by omega) (by omega) (by omega)
  by_cases c : 0 ≤ n ∧ n < μ 202 0
  · obtain ⟨hl, hv, hcase⟩ := q4 c
    have hb := hl.1
    have ok := hb.v
    have hp := hb.p
    have hpe := hb.2.1
    have a0 := AskM_0 m
    have fin : ∀ (m' : Mem) (x : Int), AskM m m' → x = (goesT a k) (vm m) → R m' (some (kL x)) := fun m' x ha hx => hR m' x ⟨ask.trans ha, by rw [hx, onM_yes c, ← hv]⟩
    unfold goesT at fin
    rcases hcase with ⟨cg, rfl⟩ | ⟨cg, rfl, hg, hk, hcp, hrp⟩
    · exact ⟨rr (by omega), fun _ => fin m _ a0 (if_neg (fun q => cg q.1)).symm, fun q => absurd rfl q⟩
    · refine ⟨rr (by omega), fun q => absurd q (by omega), fun _ => ?_⟩
      have v0 : (gameV (vm m)).1 = m 201 22 := by rw [hg]; rfl
      have v4 : (gameV (vm m)).2.2.2.2.1 = clip (m 201 22) (m 212) := by rw [hg]; rfl
      have v6 : (gameV (vm m)).2.2.2.2.2.2 = clip (m 201 22) (m 214) := by rw [hg]; rfl
      have k4 : m 201 22 ≤ 4 := by have := cg.2; omega
      rw [v0, v4, v6] at fin
      have ia := isIn_r (x := a) (lo := 0) (hi := m 201 22 - 1) (μ := m)
      refine ⟨⟨r_a, rr (by omega), rr (by omega)⟩, rr (by omega), fun d => ?_, fun d => fin m _ a0 ?_⟩
      · have da := isIn_1.mp d
        have p2 := Pk_at hrp (by omega) da.1 (show a < m 201 22 by omega)
        rw [if_pos ⟨cg, dk, by omega, by omega⟩, clip_in da.1 (by omega), clip_in da.1 (by omega)] at fin
        refine ⟨r_k, fun c1 => ⟨by omega, fin m _ a0 ?_⟩, fun c1 => ⟨by omega, rr (by omega), fin m _ a0 ?_⟩⟩
        · rw [if_neg c1]
        · rw [if_pos (Classical.not_not.mp c1)]
      · rw [if_neg (fun q => d (isIn_1.mpr ⟨q.2.2.1, by have := q.2.2.2; omega⟩))]
  · have e := q3 c
    subst e
    exact ⟨rr (by omega), fun _ => hR m _ ⟨ask, (onM_no c).symm⟩, fun q => absurd rfl q⟩
theorem ct_X11_goes : Ct mX11_goes 6 145 0 0 (nrmS S_X11_goes) := by
  refine ct_vm (own := RX11) (by decide +kernel) rfl ?_ ?_
  · intro as μ Q hS
    unfold S_X11_goes at hS
    split at hS
    · exact Nat.le_of_ble_eq_true rfl
    · exact hS.elim
  · intro as μ R hS
    unfold S_X11_goes at hS
    split at hS
    · exact body_X11_goes hS.1 hS.2
    · exact hS.elim
