/-! lines, as the model reads them -/
def AT (tx : Int → Int) (n i : Int) (m : Mem) : Prop := TX m = tx ∧ m 201 2 = n ∧ AdvX tx n (posT tx n i) m
theorem at_tok {tx : Int → Int} {n i : Int} {m : Mem} (h : AT tx n i m) : (m 201 5 = 0 ↔ KT tx n i = 0) ∧ (m 201 5 = 1 ↔ KT tx n i = 2) ∧ (m 201 5 = 2 ↔ KT tx n i = 1) ∧ (m 201 5 = 3 ↔ 3 ≤ KT tx n i ∧ KT tx n i ≤ 9) := by
  have e : m 201 5 = tokM (KT tx n i) := h.2.2.2.2.1
  have b : 0 ≤ KT tx n i ∧ KT tx n i ≤ 10 := kX_bd (tx := tx) (n := n) (x := posT tx n i)
  rw [e]
  exact (tokM_at b.1 b.2).2
theorem at_where {tx : Int → Int} {n i : Int} {m : Mem} (h : AT tx n i m) : m 201 4 = stT tx n i := h.2.2.1
theorem at_num {tx : Int → Int} {n i : Int} {m : Mem} (h : AT tx n i m) (k : KT tx n i = 2) : m 201 6 = VT tx n i := h.2.2.2.2.2.2 k
theorem at_word {tx : Int → Int} {n i : Int} {m : Mem} (h : AT tx n i m) (k : 3 ≤ KT tx n i) (k' : KT tx n i ≤ 9) : m 201 7 = KT tx n i - 2 := h.2.2.2.2.2.1 k k'
theorem at_fr {tx : Int → Int} {n i : Int} {μ m : Mem} (h : AT tx n i μ) (hf : ∀ f : Int, 2 ≤ f → f ≤ 7 → m 201 f = μ 201 f) (ht : TX m = TX μ) : AT tx n i m := by
  unfold AT AdvX at *
  rw [ht, hf 2 (by omega) (by omega), hf 3 (by omega) (by omega), hf 4 (by omega) (by omega), hf 5 (by omega) (by omega), hf 6 (by omega) (by omega), hf 7 (by omega) (by omega)]
  exact h
theorem at_next {tx : Int → Int} {n i : Int} {μ m : Mem} (h : AT tx n i μ) (i0 : 0 ≤ i) (hb : TBm μ) (pf : PFm μ m) (ha : AdvX (TX μ) (μ 201 2) (μ 201 3) m) : AT tx n (i + 1) m := by
  obtain ⟨h1, h2, h3⟩ := h
  have t := pf.tx hb
  have e : μ 201 3 = nxtT tx n (posT tx n i) := h3.2.1
  refine ⟨by rw [t.1, h1], by rw [t.2.2, h2], ?_⟩
  rw [posT_s i0]
  rw [h1, h2, e] at ha
  exact ha
theorem num_step {μ m : Mem} {lo hi r n i : Int} {tx : Int → Int} (q : Q_X11_numbered 201 lo hi μ m r) (hb : PBm μ) (h : AT tx n i μ) (i0 : 0 ≤ i) (w : μ 201 8 = 0) :
    (KT tx n i ≠ 2 → m 201 8 = 1 ∧ flM m = (1, stT tx n i) ∧ r = lo ∧ m 201 11 = 0) ∧
    (KT tx n i = 2 → m 201 8 = 0 ∧ AT tx n (i + 1) m ∧ (((lo ≤ VT tx n i ∧ VT tx n i ≤ hi) ∧ r = VT tx n i ∧ m 201 11 = 1 ∧ flM m = flM μ) ∨ (¬ (lo ≤ VT tx n i ∧ VT tx n i ≤ hi) ∧ r = lo ∧ m 201 11 = 0 ∧ flM m = alsoF (flM μ) 2 (stT tx n i)))) := by
  obtain ⟨q1, q2, q3, q4, q5⟩ := q
  have tk := at_tok h
  have wh := at_where h
  rcases q5 with ⟨a, _⟩ | ⟨a, b, c, d, e, f⟩ | ⟨a, b, c, d, e⟩
  · omega
  · exact ⟨fun _ => ⟨e, by rw [f, wh], c, d⟩, fun k => absurd (tk.2.1.mpr k) b⟩
  · have k := tk.2.1.mp b
    refine ⟨fun k' => absurd k k', fun _ => ⟨c, at_next h i0 hb.2.2.2.2.1 q2 d, ?_⟩⟩
    rw [at_num h k, wh] at e
    exact e
theorem num_wrong {μ m : Mem} {lo hi r : Int} (q : Q_X11_numbered 201 lo hi μ m r) (w : μ 201 8 = 1) : m 201 8 = 1 ∧ flM m = flM μ ∧ r = lo ∧ m 201 11 = 0 := by
  obtain ⟨q1, q2, q3, q4, q5⟩ := q
  rcases q5 with ⟨a, b, c, d, e⟩ | ⟨a, _⟩ | ⟨a, _⟩
  · exact ⟨d, e, b, c⟩
  · omega
  · omega
theorem num_r {μ m : Mem} {lo hi r : Int} (q : Q_X11_numbered 201 lo hi μ m r) (hl : lo ≤ hi) : (lo ≤ r ∧ r ≤ hi) ∧ (m 201 11 = 0 ∨ m 201 11 = 1) := by
  obtain ⟨q1, q2, q3, q4, q5⟩ := q
  rcases q5 with ⟨a, b, c, d, e⟩ | ⟨a, b, c, d, e⟩ | ⟨a, b, c, d, e⟩
  · exact ⟨by omega, Or.inl c⟩
  · exact ⟨by omega, Or.inl d⟩
  · rcases e with ⟨f, g, h, _⟩ | ⟨f, g, h, _⟩
    · exact ⟨by omega, Or.inr h⟩
    · exact ⟨by omega, Or.inl h⟩
def alsoM (μ : Mem) (k p : Int) : Mem := if μ 201 8 ≠ 0 ∨ (μ 202 3 ≠ 0 ∧ (μ 202 4 < p ∨ (μ 202 4 = p ∧ μ 202 3 ≤ k))) then μ else updm (updm μ 202 3 k) 202 4 p
def putL (μ : Mem) (a b k : Int) : Mem := updm (updm (updm μ 204 (40 + 8 * a + b) k) 204 (40 + 8 * b + a) k) 204 1 (μ 204 1 + 1)
/-- what is read, within its bounds -/
def RBm (m : Mem) : Prop := (2 ≤ m 204 0 ∧ m 204 0 ≤ 8) ∧ (0 ≤ m 204 1 ∧ m 204 1 ≤ 1000) ∧ ∀ j : Int, 0 ≤ j → j < 64 → 0 ≤ m 204 (40 + j) ∧ m 204 (40 + j) ≤ 20
def P_X11_aLane (o p : Int) (μ : Mem) : Prop := o = 201 ∧ PBm μ ∧ RBm μ ∧ 0 ≤ p ∧ p ≤ 500
def Q_X11_aLane (_ p : Int) (μ μ' : Mem) : Prop := ∃ (m0 m1 m2 m3 m4 : Mem) (a b k : Int), m0 = (if μ 204 1 = 20 then alsoM μ 3 p else μ) ∧ Q_X11_placed 201 m0 m1 a ∧ Q_X11_placed 201 m1 m2 b ∧ m3 = (if (¬ m1 201 11 = 0 ∧ ¬ m2 201 11 = 0) ∧ a = b then alsoM m2 2 (m1 201 4) else m2) ∧ Q_X11_numbered 201 1 20 m3 m4 k ∧
  μ' = if m4 201 8 ≠ 0 ∨ ¬ (¬ m1 201 11 = 0 ∧ ¬ m2 201 11 = 0) ∨ a = b then m4 else putL (if 0 < m4 204 (40 + 8 * a + b) then alsoM m4 3 p else m4) a b k
def S_X11_aLane : S0t := fun as μ Q => match as with
  | [(2, x0), (0, x1)] => P_X11_aLane x0 x1 μ ∧ ∀ (μ' : Mem) , Q_X11_aLane x0 x1 μ μ'  → Q μ' none
  | _ => False
theorem mono_X11_aLane : Mono S_X11_aLane := by
  intro as μ Q Q' h hS
  unfold S_X11_aLane at hS ⊢
  split at hS
  · exact ⟨hS.1, fun μ' q => h _ _ (hS.2 _ q)⟩
  · exact hS.elim
def iX11_aLane : Inf := (kX11_aLane, fTX11, pTX11, cTX11, lTX11, sTX11, [(166, 0, 2, 11, S_X11_also), (177, 0, 0, 11, S_X11_placed), (173, 0, 2, 11, S_X11_numbered)])
theorem ok_X11_aLane : infOK iX11_aLane mX11_aLane RX11 6 132 := ⟨kkX11_aLane, fTX11_ok, pTX11_ok _, cTX11_ok, lTX11_ok, sTX11_ok, c_cons ⟨mX11_also, 0, 0, ct_X11_also, mmX11_also, vvX11_also, lkX11_166, ⟨by decide, by decide⟩, ⟨_, _, rfl⟩, by decide, mono_X11_also⟩ (c_cons ⟨mX11_placed, 5, 112, ct_X11_placed, mmX11_placed, vvX11_placed, lkX11_177, ⟨by decide, by decide⟩, ⟨_, _, rfl⟩, by decide, mono_X11_placed⟩ (c_cons ⟨mX11_numbered, 4, 89, ct_X11_numbered, mmX11_numbered, vvX11_numbered, lkX11_173, ⟨by decide, by decide⟩, ⟨_, _, rfl⟩, by decide, mono_X11_numbered⟩ (c_nil)))⟩
theorem mt_X11_aLane : mtOK [] RX11 6 132 := mt_nil
abbrev V_X11_aLane (R : Mem → Option AV → Prop) (pc : Nat) (lc : List (Nat × AV)) (μ : Mem) : Prop := VM mX11_aLane RX11 6 132 R pc lc [] μ
set_option maxRecDepth 20000 in
theorem vc_X11_aLane_0 {R : Mem → Option AV → Prop} {p : Int} {μ : Mem} (H : r32 (μ 204 1) ∧ ((¬ (μ 204 1) = (20 : Int)) → V_X11_aLane R 17 [(0, kR 201), (1, kI p)] μ) ∧ (¬ (¬ (μ 204 1) = (20 : Int)) → P_X11_also 201 3 p μ ∧ (∀ (μ1 : Mem), Q_X11_also 201 3 p μ μ1 → V_X11_aLane R 17 [(0, kR 201), (1, kI p)] μ1))) : V_X11_aLane R 0 [(0, kR 201), (1, kI p)] μ := by
  refine vm_step2 mt_X11_aLane ok_X11_aLane [(17, [0, 1]), (73, [0, 1, 2, 3, 5]), (124, [0, 2, 5, 6]), (141, [0, 2, 5, 6]), (158, [0])] 1000 ?_
  show isC 201 11 ∧ inA 204 0 (1 : Int) ∧ (r32 (μ 204 1) ∧ r32 (20 : Int)) ∧ ((¬ (μ 204 1) = (20 : Int)) → V_X11_aLane R 17 [(0, kR 201), (1, kI p)] μ) ∧ (¬ (¬ (μ 204 1) = (20 : Int)) → isC 201 11 ∧ P_X11_also 201 3 p μ ∧ (∀ (μ1 : Mem), Q_X11_also 201 3 p μ μ1 → V_X11_aLane R 17 [(0, kR 201), (1, kI p)] μ1))
  exact ⟨c_201, ⟨isArr.in a_204 (by omega) (by omega), ⟨⟨H.1, by unfold r32; omega⟩, fun hc4 => (H.2.1 hc4), fun hc4 => ⟨c_201, (H.2.2 hc4).1, fun μ1 hq3 => ((H.2.2 hc4).2 μ1 hq3)⟩⟩⟩⟩
set_option maxRecDepth 20000 in
theorem vc_X11_aLane_17 {R : Mem → Option AV → Prop} {p : Int} {μ : Mem} (H : P_X11_placed 201 μ ∧ (∀ (μ5 : Mem) (rv6 : Int), Q_X11_placed 201 μ μ5 rv6 → P_X11_placed 201 μ5 ∧ (∀ (μ8 : Mem) (rv9 : Int), Q_X11_placed 201 μ5 μ8 rv9 → r32 (μ5 201 11) ∧ (((μ5 201 11) = 0) → V_X11_aLane R 73 [(0, kR 201), (1, kI p), (2, kI rv6), (3, kI 0), (5, kI rv9)] μ8) ∧ (¬ ((μ5 201 11) = 0) → r32 (μ8 201 11) ∧ (((μ8 201 11) = 0) → V_X11_aLane R 73 [(0, kR 201), (1, kI p), (2, kI rv6), (3, kI 0), (5, kI rv9)] μ8) ∧ (¬ ((μ8 201 11) = 0) → r32 rv6 ∧ r32 rv9 ∧ ((¬ rv6 = rv9) → V_X11_aLane R 73 [(0, kR 201), (1, kI p), (2, kI rv6), (3, kI 1), (5, kI rv9)] μ8) ∧ (¬ (¬ rv6 = rv9) → P_X11_also 201 2 (μ5 201 4) μ8 ∧ (∀ (μ21 : Mem), Q_X11_also 201 2 (μ5 201 4) μ8 μ21 → V_X11_aLane R 73 [(0, kR 201), (1, kI p), (2, kI rv6), (3, kI 1), (5, kI rv9)] μ21))))))) : V_X11_aLane R 17 [(0, kR 201), (1, kI p)] μ := by
  refine vm_step2 mt_X11_aLane ok_X11_aLane [(17, [0, 1]), (73, [0, 1, 2, 3, 5]), (124, [0, 2, 5, 6]), (141, [0, 2, 5, 6]), (158, [0])] 1000 ?_
  show isC 201 11 ∧ P_X11_placed 201 μ ∧ (∀ (μ5 : Mem) (rv6 : Int), Q_X11_placed 201 μ μ5 rv6 → isC 201 11 ∧ isC 201 11 ∧ isC 201 11 ∧ P_X11_placed 201 μ5 ∧ (∀ (μ8 : Mem) (rv9 : Int), Q_X11_placed 201 μ5 μ8 rv9 → r32 (μ5 201 11) ∧ (((μ5 201 11) = 0) → r32 (0 : Int) ∧ (((0 : Int) = 0) → V_X11_aLane R 73 [(0, kR 201), (1, kI p), (2, kI rv6), (3, kI 0), (5, kI rv9)] μ8) ∧ (¬ ((0 : Int) = 0) → (r32 rv6 ∧ r32 rv9) ∧ ((¬ rv6 = rv9) → V_X11_aLane R 73 [(0, kR 201), (1, kI p), (2, kI rv6), (3, kI 0), (5, kI rv9)] μ8) ∧ (¬ (¬ rv6 = rv9) → isC 201 11 ∧ P_X11_also 201 2 (μ5 201 4) μ8 ∧ (∀ (μ11 : Mem), Q_X11_also 201 2 (μ5 201 4) μ8 μ11 → V_X11_aLane R 73 [(0, kR 201), (1, kI p), (2, kI rv6), (3, kI 0), (5, kI rv9)] μ11)))) ∧ (¬ ((μ5 201 11) = 0) → isC 201 11 ∧ r32 (μ8 201 11) ∧ (((μ8 201 11) = 0) → r32 (0 : Int) ∧ (((0 : Int) = 0) → V_X11_aLane R 73 [(0, kR 201), (1, kI p), (2, kI rv6), (3, kI 0), (5, kI rv9)] μ8) ∧ (¬ ((0 : Int) = 0) → (r32 rv6 ∧ r32 rv9) ∧ ((¬ rv6 = rv9) → V_X11_aLane R 73 [(0, kR 201), (1, kI p), (2, kI rv6), (3, kI 0), (5, kI rv9)] μ8) ∧ (¬ (¬ rv6 = rv9) → isC 201 11 ∧ P_X11_also 201 2 (μ5 201 4) μ8 ∧ (∀ (μ16 : Mem), Q_X11_also 201 2 (μ5 201 4) μ8 μ16 → V_X11_aLane R 73 [(0, kR 201), (1, kI p), (2, kI rv6), (3, kI 0), (5, kI rv9)] μ16)))) ∧ (¬ ((μ8 201 11) = 0) → r32 (1 : Int) ∧ (((1 : Int) = 0) → V_X11_aLane R 73 [(0, kR 201), (1, kI p), (2, kI rv6), (3, kI 1), (5, kI rv9)] μ8) ∧ (¬ ((1 : Int) = 0) → (r32 rv6 ∧ r32 rv9) ∧ ((¬ rv6 = rv9) → V_X11_aLane R 73 [(0, kR 201), (1, kI p), (2, kI rv6), (3, kI 1), (5, kI rv9)] μ8) ∧ (¬ (¬ rv6 = rv9) → isC 201 11 ∧ P_X11_also 201 2 (μ5 201 4) μ8 ∧ (∀ (μ21 : Mem), Q_X11_also 201 2 (μ5 201 4) μ8 μ21 → V_X11_aLane R 73 [(0, kR 201), (1, kI p), (2, kI rv6), (3, kI 1), (5, kI rv9)] μ21)))))))
  exact ⟨c_201, H.1, fun μ5 rv6 hq7 => ⟨c_201, ⟨c_201, ⟨c_201, (H.2 μ5 rv6 hq7).1, fun μ8 rv9 hq10 => ⟨((H.2 μ5 rv6 hq7).2 μ8 rv9 hq10).1, fun hc27 => ⟨by unfold r32; omega, fun _ => (((H.2 μ5 rv6 hq7).2 μ8 rv9 hq10).2.1 hc27), fun q => absurd (by omega) q⟩, fun hc27 => ⟨c_201, ⟨(((H.2 μ5 rv6 hq7).2 μ8 rv9 hq10).2.2 hc27).1, fun hc26 => ⟨by unfold r32; omega, fun _ => ((((H.2 μ5 rv6 hq7).2 μ8 rv9 hq10).2.2 hc27).2.1 hc26), fun q => absurd (by omega) q⟩, fun hc26 => ⟨by unfold r32; omega, fun q => absurd q (by omega), fun _ => ⟨⟨((((H.2 μ5 rv6 hq7).2 μ8 rv9 hq10).2.2 hc27).2.2 hc26).1, ((((H.2 μ5 rv6 hq7).2 μ8 rv9 hq10).2.2 hc27).2.2 hc26).2.1⟩, fun hc24 => (((((H.2 μ5 rv6 hq7).2 μ8 rv9 hq10).2.2 hc27).2.2 hc26).2.2.1 hc24), fun hc24 => ⟨c_201, (((((H.2 μ5 rv6 hq7).2 μ8 rv9 hq10).2.2 hc27).2.2 hc26).2.2.2 hc24).1, fun μ21 hq23 => ((((((H.2 μ5 rv6 hq7).2 μ8 rv9 hq10).2.2 hc27).2.2 hc26).2.2.2 hc24).2 μ21 hq23)⟩⟩⟩⟩⟩⟩⟩⟩⟩⟩
set_option maxRecDepth 20000 in
theorem vc_X11_aLane_73 {R : Mem → Option AV → Prop} {p a g b : Int} {μ : Mem} (H : P_X11_numbered 201 1 20 μ ∧ (∀ (μ28 : Mem) (rv29 : Int), Q_X11_numbered 201 1 20 μ μ28 rv29 → r32 (μ28 201 8) ∧ ((¬ (μ28 201 8) = 0) → R μ28 none) ∧ (¬ (¬ (μ28 201 8) = 0) → r32 g ∧ ((g = 0) → R μ28 none) ∧ (¬ (g = 0) → r32 a ∧ r32 b ∧ ((¬ a = b) → (0 ≤ ((40 + (8 * a)) + b) ∧ ((40 + (8 * a)) + b) < 104) ∧ r32 (μ28 204 ((40 + (8 * a)) + b)) ∧ (((μ28 204 ((40 + (8 * a)) + b)) ≤ 0) → V_X11_aLane R 124 [(0, kR 201), (2, kI a), (5, kI b), (6, kI rv29)] μ28) ∧ (¬ ((μ28 204 ((40 + (8 * a)) + b)) ≤ 0) → P_X11_also 201 3 p μ28 ∧ (∀ (μ31 : Mem), Q_X11_also 201 3 p μ28 μ31 → V_X11_aLane R 124 [(0, kR 201), (2, kI a), (5, kI b), (6, kI rv29)] μ31))) ∧ (¬ (¬ a = b) → R μ28 none))))) : V_X11_aLane R 73 [(0, kR 201), (1, kI p), (2, kI a), (3, kI g), (5, kI b)] μ := by
  refine vm_step2 mt_X11_aLane ok_X11_aLane [(17, [0, 1]), (73, [0, 1, 2, 3, 5]), (124, [0, 2, 5, 6]), (141, [0, 2, 5, 6]), (158, [0])] 1000 ?_
  show isC 201 11 ∧ P_X11_numbered 201 1 20 μ ∧ (∀ (μ28 : Mem) (rv29 : Int), Q_X11_numbered 201 1 20 μ μ28 rv29 → isC 201 11 ∧ r32 (μ28 201 8) ∧ ((¬ (μ28 201 8) = 0) → R μ28 none) ∧ (¬ (¬ (μ28 201 8) = 0) → r32 g ∧ ((g = 0) → R μ28 none) ∧ (¬ (g = 0) → (r32 a ∧ r32 b) ∧ ((¬ a = b) → isC 201 11 ∧ inA 204 0 ((40 + (8 * a)) + b) ∧ r32 (μ28 204 ((40 + (8 * a)) + b)) ∧ (((μ28 204 ((40 + (8 * a)) + b)) ≤ 0) → V_X11_aLane R 124 [(0, kR 201), (2, kI a), (5, kI b), (6, kI rv29)] μ28) ∧ (¬ ((μ28 204 ((40 + (8 * a)) + b)) ≤ 0) → isC 201 11 ∧ P_X11_also 201 3 p μ28 ∧ (∀ (μ31 : Mem), Q_X11_also 201 3 p μ28 μ31 → V_X11_aLane R 124 [(0, kR 201), (2, kI a), (5, kI b), (6, kI rv29)] μ31))) ∧ (¬ (¬ a = b) → R μ28 none))))
  exact ⟨c_201, H.1, fun μ28 rv29 hq30 => ⟨c_201, ⟨(H.2 μ28 rv29 hq30).1, fun hc37 => ((H.2 μ28 rv29 hq30).2.1 hc37), fun hc37 => ⟨((H.2 μ28 rv29 hq30).2.2 hc37).1, fun hc36 => (((H.2 μ28 rv29 hq30).2.2 hc37).2.1 hc36), fun hc36 => ⟨⟨(((H.2 μ28 rv29 hq30).2.2 hc37).2.2 hc36).1, (((H.2 μ28 rv29 hq30).2.2 hc37).2.2 hc36).2.1⟩, fun hc35 => ⟨c_201, ⟨isArr.in a_204 ((((H.2 μ28 rv29 hq30).2.2 hc37).2.2 hc36).2.2.1 hc35).1.1 ((((H.2 μ28 rv29 hq30).2.2 hc37).2.2 hc36).2.2.1 hc35).1.2, ⟨((((H.2 μ28 rv29 hq30).2.2 hc37).2.2 hc36).2.2.1 hc35).2.1, fun hc34 => (((((H.2 μ28 rv29 hq30).2.2 hc37).2.2 hc36).2.2.1 hc35).2.2.1 hc34), fun hc34 => ⟨c_201, (((((H.2 μ28 rv29 hq30).2.2 hc37).2.2 hc36).2.2.1 hc35).2.2.2 hc34).1, fun μ31 hq33 => ((((((H.2 μ28 rv29 hq30).2.2 hc37).2.2 hc36).2.2.1 hc35).2.2.2 hc34).2 μ31 hq33)⟩⟩⟩⟩, fun hc35 => ((((H.2 μ28 rv29 hq30).2.2 hc37).2.2 hc36).2.2.2 hc35)⟩⟩⟩⟩⟩
set_option maxRecDepth 20000 in
theorem vc_X11_aLane_124 {R : Mem → Option AV → Prop} {a b mi : Int} {μ : Mem} (H : (0 ≤ ((40 + (8 * a)) + b) ∧ ((40 + (8 * a)) + b) < 104) ∧ V_X11_aLane R 141 [(0, kR 201), (2, kI a), (5, kI b), (6, kI mi)] (updm μ 204 ((40 + (8 * a)) + b) mi)) : V_X11_aLane R 124 [(0, kR 201), (2, kI a), (5, kI b), (6, kI mi)] μ := by
  refine vm_step2 mt_X11_aLane ok_X11_aLane [(17, [0, 1]), (73, [0, 1, 2, 3, 5]), (124, [0, 2, 5, 6]), (141, [0, 2, 5, 6]), (158, [0])] 1000 ?_
  show isC 201 11 ∧ inA 204 0 ((40 + (8 * a)) + b) ∧ V_X11_aLane R 141 [(0, kR 201), (2, kI a), (5, kI b), (6, kI mi)] (updm μ 204 ((40 + (8 * a)) + b) mi)
  exact ⟨c_201, ⟨isArr.in a_204 H.1.1 H.1.2, H.2⟩⟩
set_option maxRecDepth 20000 in
theorem vc_X11_aLane_141 {R : Mem → Option AV → Prop} {a b mi : Int} {μ : Mem} (H : (0 ≤ ((40 + (8 * b)) + a) ∧ ((40 + (8 * b)) + a) < 104) ∧ V_X11_aLane R 158 [(0, kR 201)] (updm μ 204 ((40 + (8 * b)) + a) mi)) : V_X11_aLane R 141 [(0, kR 201), (2, kI a), (5, kI b), (6, kI mi)] μ := by
  refine vm_step2 mt_X11_aLane ok_X11_aLane [(17, [0, 1]), (73, [0, 1, 2, 3, 5]), (124, [0, 2, 5, 6]), (141, [0, 2, 5, 6]), (158, [0])] 1000 ?_
  show isC 201 11 ∧ inA 204 0 ((40 + (8 * b)) + a) ∧ V_X11_aLane R 158 [(0, kR 201)] (updm μ 204 ((40 + (8 * b)) + a) mi)
  exact ⟨c_201, ⟨isArr.in a_204 H.1.1 H.1.2, H.2⟩⟩
set_option maxRecDepth 20000 in
theorem vc_X11_aLane_158 {R : Mem → Option AV → Prop} {μ : Mem} (H : R (updm μ 204 1 ((μ 204 1) + 1)) none) : V_X11_aLane R 158 [(0, kR 201)] μ := by
  refine vm_step2 mt_X11_aLane ok_X11_aLane [(17, [0, 1]), (73, [0, 1, 2, 3, 5]), (124, [0, 2, 5, 6]), (141, [0, 2, 5, 6]), (158, [0])] 1000 ?_
  show isC 201 11 ∧ inA 204 0 (1 : Int) ∧ inA 204 0 (1 : Int) ∧ R (updm μ 204 1 ((μ 204 1) + 1)) none
  exact ⟨c_201, ⟨isArr.in a_204 (by omega) (by omega), ⟨isArr.in a_204 (by omega) (by omega), H⟩⟩⟩
theorem RB_eq {μ m : Mem} (h : RBm μ) (e : m 204 = μ 204) : RBm m := by
  unfold RBm at *
  rw [e]
  exact h
theorem body_X11_aLane {o p : Int} {μ : Mem} {R : Mem → Option AV → Prop} (h : P_X11_aLane o p μ) (hR : ∀ μ' : Mem, Q_X11_aLane o p μ μ' → R μ' none) : V_X11_aLane R 0 [(0, kR o), (1, kI p)] μ := by
  obtain ⟨rfl, hb, hr, hp⟩ := h
  have r3 : ∀ m : Mem, PBm m → r32 (m 202 3) ∧ r32 (m 202 4) := fun m hm => ⟨rr (by have := hm.2.1; omega), rr (by have := hm.2.2.1; omega)⟩
  have main : ∀ m0 : Mem, m0 = (if μ 204 1 = 20 then alsoM μ 3 p else μ) → PBm m0 → RBm m0 → V_X11_aLane R 17 [(0, kR 201), (1, kI p)] m0 := by
    intro m0 h0 b0 rb0
    refine vc_X11_aLane_17 ⟨⟨rfl, b0, by have := rb0.1; omega, rb0.1.2⟩, fun m1 a q1 => ?_⟩
    have q1' : Q_X11_numbered 201 0 (m0 204 0 - 1) m0 m1 a := q1
    have b1 := q1'.1
    have rb1 : RBm m1 := RB_eq rb0 q1'.2.2.1
    have ra := num_r q1' (by have := rb0.1; omega)
    refine ⟨⟨rfl, b1, by have := rb1.1; omega, rb1.1.2⟩, fun m2 b q2 => ?_⟩
    have q2' : Q_X11_numbered 201 0 (m1 204 0 - 1) m1 m2 b := q2
    have b2 := q2'.1
    have rb2 : RBm m2 := RB_eq rb1 q2'.2.2.1
    have rb' := num_r q2' (by have := rb1.1; omega)
    have hr0 := rb0.1
    have hr1 := rb1.1
    -- the minutes
    have last : ∀ (m3 : Mem) (g : Int), m3 = (if (¬ m1 201 11 = 0 ∧ ¬ m2 201 11 = 0) ∧ a = b then alsoM m2 2 (m1 201 4) else m2) → PBm m3 → RBm m3 → (g = 0 ∧ ¬ (¬ m1 201 11 = 0 ∧ ¬ m2 201 11 = 0) ∨ g = 1 ∧ ¬ m1 201 11 = 0 ∧ ¬ m2 201 11 = 0) → V_X11_aLane R 73 [(0, kR 201), (1, kI p), (2, kI a), (3, kI g), (5, kI b)] m3 := by
      intro m3 g h3 b3 rb3 hg
      refine vc_X11_aLane_73 ⟨⟨rfl, b3, rr (by omega), rr (by omega)⟩, fun m4 k q4 => ?_⟩
      have b4 := q4.1
      have rb4 : RBm m4 := RB_eq rb3 q4.2.2.1
      have fin : ∀ μ' : Mem, μ' = (if m4 201 8 ≠ 0 ∨ ¬ (¬ m1 201 11 = 0 ∧ ¬ m2 201 11 = 0) ∨ a = b then m4 else putL (if 0 < m4 204 (40 + 8 * a + b) then alsoM m4 3 p else m4) a b k) → R μ' none := fun μ' e => hR μ' ⟨m0, m1, m2, m3, m4, a, b, k, h0, q1, q2, h3, q4, e⟩
      refine ⟨by rcases b4.1 with e | e <;> rw [e] <;> exact rr (by omega), fun c => fin m4 (if_pos (Or.inl c)).symm, fun c => ⟨by rcases hg with e | e <;> rw [e.1] <;> exact rr (by omega), fun d => fin m4 (if_pos (Or.inr (Or.inl ?_))).symm, fun d => ⟨rr (by omega), rr (by omega), fun e => ?_, fun e => fin m4 (if_pos (Or.inr (Or.inr (Classical.not_not.mp e)))).symm⟩⟩⟩
      · rcases hg with e | e
        · exact e.2
        · omega
      · have hg' : ¬ m1 201 11 = 0 ∧ ¬ m2 201 11 = 0 := by
          rcases hg with f | f
          · exact absurd f.1 d
          · exact f.2
        have cell := rb4.2.2 (8 * a + b) (by omega) (by omega)
        rw [show 40 + (8 * a + b) = 40 + 8 * a + b by omega] at cell
        have no : ¬ (m4 201 8 ≠ 0 ∨ ¬ (¬ m1 201 11 = 0 ∧ ¬ m2 201 11 = 0) ∨ a = b) := fun q => by
          rcases q with q | q | q
          · exact c (q)
          · exact q hg'
          · exact e q
        have put : ∀ m5 : Mem, m5 = (if 0 < m4 204 (40 + 8 * a + b) then alsoM m4 3 p else m4) → V_X11_aLane R 124 [(0, kR 201), (2, kI a), (5, kI b), (6, kI k)] m5 := fun m5 h5 => by
          refine vc_X11_aLane_124 ⟨by omega, vc_X11_aLane_141 ⟨by omega, vc_X11_aLane_158 (fin _ ?_)⟩⟩
          rw [if_neg no, ← h5]
          unfold putL
          have e1 : updm (updm m5 204 (40 + 8 * a + b) k) 204 (40 + 8 * b + a) k 204 1 = m5 204 1 := by rw [ru_eq, r1_ne (by omega), ru_eq, r1_ne (by omega)]
          rw [e1]
        refine ⟨by omega, rr (by omega), fun z => put m4 (if_neg (by omega)).symm, fun z => ⟨⟨rfl, b4.1, (r3 m4 b4).1, (r3 m4 b4).2, rr (by omega), rr (by omega)⟩, fun m5 q5 => put m5 ?_⟩⟩
        rw [if_pos (by omega)]
        exact q5
    refine ⟨by rcases ra.2 with e | e <;> rw [e] <;> exact rr (by omega), fun c => last m2 0 (if_neg (fun q => q.1.1 c)).symm b2 rb2 (Or.inl ⟨rfl, fun q => q.1 c⟩), fun c => ⟨by rcases rb'.2 with e | e <;> rw [e] <;> exact rr (by omega), fun d => last m2 0 (if_neg (fun q => q.1.2 d)).symm b2 rb2 (Or.inl ⟨rfl, fun q => q.2 d⟩), fun d => ⟨rr (by omega), rr (by omega), fun e => last m2 1 (if_neg (fun q => e q.2)).symm b2 rb2 (Or.inr ⟨rfl, c, d⟩), fun e => ⟨⟨rfl, b2.1, (r3 m2 b2).1, (r3 m2 b2).2, rr (by omega), rr (by have := b1.2.2.2.2.2.2.1; omega)⟩, fun m3 q3 => ?_⟩⟩⟩⟩
    have ap := also_PB b2 (by omega) b1.2.2.2.2.2.2.1 q3
    exact last m3 1 (by rw [if_pos ⟨⟨c, d⟩, Classical.not_not.mp e⟩]; exact q3) ap.1 (RB_eq rb2 ap.2.2.2.1) (Or.inr ⟨rfl, c, d⟩)
  have h1 := hr.2.1
  refine vc_X11_aLane_0 ⟨rr (by omega), fun c => main μ (if_neg c).symm hb hr, fun c => ⟨⟨rfl, hb.1, (r3 μ hb).1, (r3 μ hb).2, rr (by omega), rr (by omega)⟩, fun m1 q => ?_⟩⟩
  have ap := also_PB hb (by omega) hp q
  exact main m1 (by rw [if_pos (Classical.not_not.mp c)]; exact q) ap.1 (RB_eq hr ap.2.2.2.1)
theorem ct_X11_aLane : Ct mX11_aLane 6 132 0 0 (nrmS S_X11_aLane) := by
  refine ct_vm (own := RX11) (by decide +kernel) rfl ?_ ?_
  · intro as μ Q hS
    unfold S_X11_aLane at hS
    split at hS
    · exact Nat.le_of_ble_eq_true rfl
    · exact hS.elim
  · intro as μ R hS
    unfold S_X11_aLane at hS
    split at hS
    · exact body_X11_aLane hS.1 hS.2
    · exact hS.elim
