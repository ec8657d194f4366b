/-! the model reads numbers, lines -/
def PBm (m : Mem) : Prop := (m 201 8 = 0 ∨ m 201 8 = 1) ∧ (0 ≤ m 202 3 ∧ m 202 3 ≤ 10) ∧ (-1 ≤ m 202 4 ∧ m 202 4 ≤ 500) ∧ (0 ≤ m 201 5 ∧ m 201 5 ≤ 4) ∧ TBm m ∧ (0 ≤ m 201 3 ∧ m 201 3 ≤ m 201 2) ∧ (0 ≤ m 201 4 ∧ m 201 4 ≤ 500) ∧ (m 201 5 = 1 → 0 ≤ m 201 6 ∧ m 201 6 ≤ 9999)
/-- what reading changes -/
def PFm (μ m : Mem) : Prop := (∀ f : Int, (f < 3 ∨ f = 10 ∨ 11 < f) → m 201 f = μ 201 f) ∧ (∀ j : Int, j ≠ 3 → j ≠ 4 → m 202 j = μ 202 j) ∧ ∀ z : Int, z ≠ 201 → z ≠ 202 → z ≠ 204 → m z = μ z
def alsoF (x : Int × Int) (k p : Int) : Int × Int := if x.1 ≠ 0 ∧ (x.2 < p ∨ (x.2 = p ∧ x.1 ≤ k)) then x else (k, p)
def flM (m : Mem) : Int × Int := (m 202 3, m 202 4)
theorem PFm_0 (μ : Mem) : PFm μ μ := ⟨fun _ _ => rfl, fun _ _ _ => rfl, fun _ _ _ _ => rfl⟩
theorem PFm.trans {μ m m' : Mem} (h : PFm μ m) (h' : PFm m m') : PFm μ m' := ⟨fun f hf => by rw [h'.1 f hf, h.1 f hf], fun j a b => by rw [h'.2.1 j a b, h.2.1 j a b], fun z a b c => by rw [h'.2.2 z a b c, h.2.2 z a b c]⟩
theorem PFm.tx {μ m : Mem} (h : PFm μ m) (hb : TBm μ) : TX m = TX μ ∧ TBm m ∧ m 201 2 = μ 201 2 := by
  have e := h.1 2 (by omega)
  have := TX_frame e (fun p p0 p1 => h.2.1 (10 + p) (by omega) (by omega)) hb
  exact ⟨this.1, this.2, e⟩
/-- the token at hand is the i-th -/
def AtT (i : Int) (m : Mem) : Prop := AdvX (TX m) (m 201 2) (posT (TX m) (m 201 2) i) m
theorem val_bd {tx : Int → Int} {p q : Int} (h : ∀ i : Int, 0 ≤ i → i < q - p → isDig (tx (p + i)) = true) : 0 ≤ valT tx p q ∧ valT tx p q ≤ 9999 := by
  unfold valT
  have key : ∀ j : Int, 0 ≤ j → j ≤ 4 → j ≤ max 0 (q - p) → 0 ≤ fold (fun x i => x * 10 + (tx (p + i) - 48)) 0 j ∧ fold (fun x i => x * 10 + (tx (p + i) - 48)) 0 j ≤ pw 10 j - 1 := by
    refine nat_ind (P := fun j => j ≤ 4 → j ≤ max 0 (q - p) → 0 ≤ fold (fun x i => x * 10 + (tx (p + i) - 48)) 0 j ∧ fold (fun x i => x * 10 + (tx (p + i) - 48)) 0 j ≤ pw 10 j - 1) (fun _ _ => ⟨Int.le_refl 0, Int.le_refl 0⟩) (fun j j0 ih h4 hq => ?_)
    have d := of_decide_eq_true (h j j0 (by omega))
    have := ih (by omega) (by omega)
    rw [fold_s j0, pw_s j0]
    omega
  have hm : 0 ≤ max 0 (min (q - p) 4) ∧ max 0 (min (q - p) 4) ≤ 4 := by omega
  have := key _ hm.1 hm.2 (by omega)
  have p4 : pw 10 (max 0 (min (q - p) 4)) ≤ 10000 := by
    have h : max 0 (min (q - p) 4) = 0 ∨ max 0 (min (q - p) 4) = 1 ∨ max 0 (min (q - p) 4) = 2 ∨ max 0 (min (q - p) 4) = 3 ∨ max 0 (min (q - p) 4) = 4 := by omega
    rcases h with h | h | h | h | h <;> rw [h] <;> decide +kernel
  omega
theorem kX_bd {tx : Int → Int} {n x : Int} : 0 ≤ kX tx n x ∧ kX tx n x ≤ 10 := by
  unfold kX
  split
  · have := kindT_bd (tx := tx) (p := skpT tx x n) (q := endT tx (skpT tx x n) n)
    omega
  · omega
/-- a number token's number -/
theorem num_bd {tx : Int → Int} {n x : Int} (hx : x ≤ n) (h : kX tx n x = 2) : 0 ≤ valT tx (skpT tx x n) (endT tx (skpT tx x n) n) ∧ valT tx (skpT tx x n) (endT tx (skpT tx x n) n) ≤ 9999 := by
  unfold kX at h
  have sb := skp_bd (tx := tx) hx
  by_cases c : skpT tx x n < n
  · rw [if_pos c] at h
    generalize skpT tx x n = S at *
    have hd : isDig (tx S) = true := by
      cases q : isDig (tx S)
      · unfold kindT at h
        rw [if_neg (by rw [q]; decide)] at h
        exfalso
        repeat' split at h
        all_goals omega
      · rfl
    have nl : ¬ isLet (tx S) = true := fun w => by
      have a := of_decide_eq_true hd
      have b := of_decide_eq_true w
      omega
    have ee : endT tx S n = runE (fun i => isDig (tx i)) (S + 1) n := by
      unfold endT
      rw [if_neg nl, if_pos hd]
    have rb := runE_bd (q := fun i => isDig (tx i)) (p := S + 1) (n := n) (by omega)
    refine val_bd (fun i i0 i1 => ?_)
    by_cases e : i = 0
    · rw [e, Int.add_zero]; exact hd
    · exact rb.2.1 (S + i) (by omega) (by rw [← ee]; omega)
  · rw [if_neg c] at h
    omega
/-- behind a step to the next token -/
theorem adv_PB {μ m : Mem} (hb : PBm μ) (h : AdvX (TX μ) (μ 201 2) (μ 201 3) m) (hf : ∀ f : Int, (f < 3 ∨ 7 < f) → m 201 f = μ 201 f) (hz : ∀ z : Int, z ≠ 201 → m z = μ z) : PBm m ∧ PFm μ m ∧ flM m = flM μ ∧ m 201 8 = μ 201 8 := by
  obtain ⟨b1, b2, b3, b4, b5, b6, b7, b8⟩ := hb
  obtain ⟨a1, a2, a3, a4, a5⟩ := h
  have e2 := hf 2 (by omega)
  have e8 := hf 8 (by omega)
  have e202 := hz 202 (by omega)
  have hn := b5.1
  have sb := skp_bd (tx := TX μ) b6.2
  have kb := kX_bd (tx := TX μ) (n := μ 201 2) (x := μ 201 3)
  have tk := tokM_at kb.1 kb.2
  have tf := TX_frame (m := m) (μ := μ) e2 (fun p _ _ => by rw [e202]) b5
  have nx : skpT (TX μ) (μ 201 3) (μ 201 2) ≤ nxtT (TX μ) (μ 201 2) (μ 201 3) ∧ nxtT (TX μ) (μ 201 2) (μ 201 3) ≤ μ 201 2 := by
    unfold nxtT
    by_cases c : skpT (TX μ) (μ 201 3) (μ 201 2) < μ 201 2
    · rw [if_pos c]
      have := endT_bd (tx := TX μ) c
      omega
    · rw [if_neg c]; omega
  have fl : flM m = flM μ := by unfold flM; rw [e202]
  refine ⟨⟨by rw [e8]; exact b1, by rw [e202]; exact b2, by rw [e202]; exact b3, by rw [a3]; exact tk.1, tf.2, by rw [a2, e2]; omega, by rw [a1]; omega, fun q => ?_⟩, ⟨fun f h => hf f (by omega), fun j _ _ => by rw [e202], fun z a _ _ => hz z a⟩, fl, e8⟩
  rw [a3] at q
  have k2 := tk.2.2.1.mp q
  rw [a5 k2]
  exact num_bd b6.2 k2
def P_X11_ends (o : Int) (μ : Mem) : Prop := o = 201 ∧ (μ 201 8 = 0 ∨ μ 201 8 = 1)
def Q_X11_ends (_ : Int) (μ μ' : Mem) : Prop := μ' = if μ 201 8 = 0 then updm (updm (updm μ 201 8 1) 202 3 1) 202 4 (μ 201 4) else μ
def S_X11_ends : S0t := fun as μ Q => match as with
  | [(2, x0)] => P_X11_ends x0 μ ∧ ∀ (μ' : Mem) , Q_X11_ends x0 μ μ'  → Q μ' none
  | _ => False
theorem mono_X11_ends : Mono S_X11_ends := by
  intro as μ Q Q' h hS
  unfold S_X11_ends at hS ⊢
  split at hS
  · exact ⟨hS.1, fun μ' q => h _ _ (hS.2 _ q)⟩
  · exact hS.elim
def iX11_ends : Inf := (kX11_ends, fTX11, pTX11, cTX11, lTX11, sTX11, [])
theorem ok_X11_ends : infOK iX11_ends mX11_ends RX11 0 0 := ⟨kkX11_ends, fTX11_ok, pTX11_ok _, cTX11_ok, lTX11_ok, sTX11_ok, c_nil⟩
theorem mt_X11_ends : mtOK [] RX11 0 0 := mt_nil
abbrev V_X11_ends (R : Mem → Option AV → Prop) (pc : Nat) (lc : List (Nat × AV)) (μ : Mem) : Prop := VM mX11_ends RX11 0 0 R pc lc [] μ
set_option maxRecDepth 20000 in
theorem vc_X11_ends_0 {R : Mem → Option AV → Prop} {μ : Mem} (H : r32 (μ 201 8) ∧ (((μ 201 8) = 0) → V_X11_ends R 13 [(0, kR 201)] (updm μ 201 8 1)) ∧ (¬ ((μ 201 8) = 0) → R μ none)) : V_X11_ends R 0 [(0, kR 201)] μ := by
  refine vm_step2 mt_X11_ends ok_X11_ends [(13, [0]), (20, [0])] 1000 ?_
  show isC 201 11 ∧ r32 (μ 201 8) ∧ (((μ 201 8) = 0) → isC 201 11 ∧ 0 = 0 ∧ (0 ≤ (1 : Int) ∧ 1 ≤ 1) ∧ V_X11_ends R 13 [(0, kR 201)] (updm μ 201 8 1)) ∧ (¬ ((μ 201 8) = 0) → R μ none)
  exact ⟨c_201, ⟨H.1, fun hc1 => ⟨c_201, rfl, by omega, (H.2.1 hc1)⟩, fun hc1 => (H.2.2 hc1)⟩⟩
set_option maxRecDepth 20000 in
theorem vc_X11_ends_13 {R : Mem → Option AV → Prop} {μ : Mem} (H : V_X11_ends R 20 [(0, kR 201)] (updm μ 202 3 1)) : V_X11_ends R 13 [(0, kR 201)] μ := by
  refine vm_step2 mt_X11_ends ok_X11_ends [(13, [0]), (20, [0])] 1000 ?_
  show isC 201 11 ∧ inA 202 0 (3 : Int) ∧ V_X11_ends R 20 [(0, kR 201)] (updm μ 202 3 1)
  exact ⟨c_201, ⟨isArr.in a_202 (by omega) (by omega), H⟩⟩
set_option maxRecDepth 20000 in
theorem vc_X11_ends_20 {R : Mem → Option AV → Prop} {μ : Mem} (H : R (updm μ 202 4 (μ 201 4)) none) : V_X11_ends R 20 [(0, kR 201)] μ := by
  refine vm_step2 mt_X11_ends ok_X11_ends [(13, [0]), (20, [0])] 1000 ?_
  show isC 201 11 ∧ isC 201 11 ∧ inA 202 0 (4 : Int) ∧ R (updm μ 202 4 (μ 201 4)) none
  exact ⟨c_201, ⟨c_201, ⟨isArr.in a_202 (by omega) (by omega), H⟩⟩⟩
theorem body_X11_ends {o : Int} {μ : Mem} {R : Mem → Option AV → Prop} (h : P_X11_ends o μ) (hR : ∀ μ' : Mem, Q_X11_ends o μ μ' → R μ' none) : V_X11_ends R 0 [(0, kR o)] μ := by
  obtain ⟨rfl, hw⟩ := h
  refine vc_X11_ends_0 ⟨rr (by omega), fun c => vc_X11_ends_13 (vc_X11_ends_20 (hR _ ?_)), fun c => hR _ (if_neg c).symm⟩
  unfold Q_X11_ends
  have e : updm (updm μ 201 8 1) 202 3 1 201 4 = μ 201 4 := by rw [ru_ne (by omega), ru_eq, r1_ne (by omega)]
  rw [if_pos c, e]
theorem ct_X11_ends : Ct mX11_ends 0 0 0 0 (nrmS S_X11_ends) := by
  refine ct_vm (own := RX11) (by decide +kernel) rfl ?_ ?_
  · intro as μ Q hS
    unfold S_X11_ends at hS
    split at hS
    · exact Nat.le_of_ble_eq_true rfl
    · exact hS.elim
  · intro as μ R hS
    unfold S_X11_ends at hS
    split at hS
    · exact body_X11_ends hS.1 hS.2
    · exact hS.elim
def P_X11_also (o k p : Int) (μ : Mem) : Prop := o = 201 ∧ (μ 201 8 = 0 ∨ μ 201 8 = 1) ∧ r32 (μ 202 3) ∧ r32 (μ 202 4) ∧ r32 k ∧ r32 p
def Q_X11_also (_ k p : Int) (μ μ' : Mem) : Prop := μ' = if μ 201 8 ≠ 0 ∨ (μ 202 3 ≠ 0 ∧ (μ 202 4 < p ∨ (μ 202 4 = p ∧ μ 202 3 ≤ k))) then μ else updm (updm μ 202 3 k) 202 4 p
def S_X11_also : S0t := fun as μ Q => match as with
  | [(2, x0), (0, x1), (0, x2)] => P_X11_also x0 x1 x2 μ ∧ ∀ (μ' : Mem) , Q_X11_also x0 x1 x2 μ μ'  → Q μ' none
  | _ => False
theorem mono_X11_also : Mono S_X11_also := by
  intro as μ Q Q' h hS
  unfold S_X11_also at hS ⊢
  split at hS
  · exact ⟨hS.1, fun μ' q => h _ _ (hS.2 _ q)⟩
  · exact hS.elim
def iX11_also : Inf := (kX11_also, fTX11, pTX11, cTX11, lTX11, sTX11, [])
theorem ok_X11_also : infOK iX11_also mX11_also RX11 0 0 := ⟨kkX11_also, fTX11_ok, pTX11_ok _, cTX11_ok, lTX11_ok, sTX11_ok, c_nil⟩
theorem mt_X11_also : mtOK [] RX11 0 0 := mt_nil
abbrev V_X11_also (R : Mem → Option AV → Prop) (pc : Nat) (lc : List (Nat × AV)) (μ : Mem) : Prop := VM mX11_also RX11 0 0 R pc lc [] μ
set_option maxRecDepth 20000 in
theorem vc_X11_also_0 {R : Mem → Option AV → Prop} {k p : Int} {μ : Mem} (H : r32 (μ 201 8) ∧ ((¬ (μ 201 8) = 0) → R μ none) ∧ (¬ (¬ (μ 201 8) = 0) → r32 (μ 202 3) ∧ (((μ 202 3) = 0) → V_X11_also R 54 [(0, kR 201), (2, kI p)] (updm μ 202 3 k)) ∧ (¬ ((μ 202 3) = 0) → r32 (μ 202 4) ∧ r32 p ∧ (((μ 202 4) < p) → R μ none) ∧ (¬ ((μ 202 4) < p) → r32 (μ 202 4) ∧ r32 p ∧ ((¬ (μ 202 4) = p) → V_X11_also R 54 [(0, kR 201), (2, kI p)] (updm μ 202 3 k)) ∧ (¬ (¬ (μ 202 4) = p) → r32 (μ 202 3) ∧ r32 k ∧ ((k < (μ 202 3)) → V_X11_also R 54 [(0, kR 201), (2, kI p)] (updm μ 202 3 k)) ∧ (¬ (k < (μ 202 3)) → R μ none)))))) : V_X11_also R 0 [(0, kR 201), (1, kI k), (2, kI p)] μ := by
  refine vm_step2 mt_X11_also ok_X11_also [(54, [0, 2])] 1000 ?_
  show isC 201 11 ∧ r32 (μ 201 8) ∧ ((¬ (μ 201 8) = 0) → R μ none) ∧ (¬ (¬ (μ 201 8) = 0) → isC 201 11 ∧ inA 202 0 (3 : Int) ∧ r32 (μ 202 3) ∧ (((μ 202 3) = 0) → isC 201 11 ∧ inA 202 0 (3 : Int) ∧ V_X11_also R 54 [(0, kR 201), (2, kI p)] (updm μ 202 3 k)) ∧ (¬ ((μ 202 3) = 0) → isC 201 11 ∧ inA 202 0 (4 : Int) ∧ (r32 (μ 202 4) ∧ r32 p) ∧ (((μ 202 4) < p) → R μ none) ∧ (¬ ((μ 202 4) < p) → isC 201 11 ∧ inA 202 0 (4 : Int) ∧ (r32 (μ 202 4) ∧ r32 p) ∧ ((¬ (μ 202 4) = p) → isC 201 11 ∧ inA 202 0 (3 : Int) ∧ V_X11_also R 54 [(0, kR 201), (2, kI p)] (updm μ 202 3 k)) ∧ (¬ (¬ (μ 202 4) = p) → isC 201 11 ∧ inA 202 0 (3 : Int) ∧ (r32 (μ 202 3) ∧ r32 k) ∧ ((k < (μ 202 3)) → isC 201 11 ∧ inA 202 0 (3 : Int) ∧ V_X11_also R 54 [(0, kR 201), (2, kI p)] (updm μ 202 3 k)) ∧ (¬ (k < (μ 202 3)) → R μ none)))))
  exact ⟨c_201, ⟨H.1, fun hc5 => (H.2.1 hc5), fun hc5 => ⟨c_201, ⟨isArr.in a_202 (by omega) (by omega), ⟨(H.2.2 hc5).1, fun hc4 => ⟨c_201, ⟨isArr.in a_202 (by omega) (by omega), ((H.2.2 hc5).2.1 hc4)⟩⟩, fun hc4 => ⟨c_201, ⟨isArr.in a_202 (by omega) (by omega), ⟨⟨((H.2.2 hc5).2.2 hc4).1, ((H.2.2 hc5).2.2 hc4).2.1⟩, fun hc3 => (((H.2.2 hc5).2.2 hc4).2.2.1 hc3), fun hc3 => ⟨c_201, ⟨isArr.in a_202 (by omega) (by omega), ⟨⟨(((H.2.2 hc5).2.2 hc4).2.2.2 hc3).1, (((H.2.2 hc5).2.2 hc4).2.2.2 hc3).2.1⟩, fun hc2 => ⟨c_201, ⟨isArr.in a_202 (by omega) (by omega), ((((H.2.2 hc5).2.2 hc4).2.2.2 hc3).2.2.1 hc2)⟩⟩, fun hc2 => ⟨c_201, ⟨isArr.in a_202 (by omega) (by omega), ⟨⟨((((H.2.2 hc5).2.2 hc4).2.2.2 hc3).2.2.2 hc2).1, ((((H.2.2 hc5).2.2 hc4).2.2.2 hc3).2.2.2 hc2).2.1⟩, fun hc1 => ⟨c_201, ⟨isArr.in a_202 (by omega) (by omega), (((((H.2.2 hc5).2.2 hc4).2.2.2 hc3).2.2.2 hc2).2.2.1 hc1)⟩⟩, fun hc1 => (((((H.2.2 hc5).2.2 hc4).2.2.2 hc3).2.2.2 hc2).2.2.2 hc1)⟩⟩⟩⟩⟩⟩⟩⟩⟩⟩⟩⟩⟩⟩
set_option maxRecDepth 20000 in
theorem vc_X11_also_54 {R : Mem → Option AV → Prop} {p : Int} {μ : Mem} (H : R (updm μ 202 4 p) none) : V_X11_also R 54 [(0, kR 201), (2, kI p)] μ := by
  refine vm_step2 mt_X11_also ok_X11_also [(54, [0, 2])] 1000 ?_
  show isC 201 11 ∧ inA 202 0 (4 : Int) ∧ R (updm μ 202 4 p) none
  exact ⟨c_201, ⟨isArr.in a_202 (by omega) (by omega), H⟩⟩
theorem body_X11_also {o k p : Int} {μ : Mem} {R : Mem → Option AV → Prop} (h : P_X11_also o k p μ) (hR : ∀ μ' : Mem, Q_X11_also o k p μ μ' → R μ' none) : V_X11_also R 0 [(0, kR o), (1, kI k), (2, kI p)] μ := by
  obtain ⟨rfl, hw, h3, h4, rk, rp⟩ := h
  have put : ¬ (μ 201 8 ≠ 0 ∨ (μ 202 3 ≠ 0 ∧ (μ 202 4 < p ∨ (μ 202 4 = p ∧ μ 202 3 ≤ k)))) → V_X11_also R 54 [(0, kR 201), (2, kI p)] (updm μ 202 3 k) := fun c => vc_X11_also_54 (hR _ (if_neg c).symm)
  have keep : (μ 201 8 ≠ 0 ∨ (μ 202 3 ≠ 0 ∧ (μ 202 4 < p ∨ (μ 202 4 = p ∧ μ 202 3 ≤ k)))) → R μ none := fun c => hR μ (if_pos c).symm
  refine vc_X11_also_0 ⟨rr (by omega), fun c => keep (Or.inl c), fun c => ⟨h3, fun d => put (by omega), fun d => ⟨h4, rp, fun e => keep (Or.inr ⟨d, Or.inl e⟩), fun e => ⟨h4, rp, fun f => put (by omega), fun f => ⟨h3, rk, fun g => put (by omega), fun g => keep (Or.inr ⟨d, Or.inr ⟨by omega, by omega⟩⟩)⟩⟩⟩⟩⟩
theorem ct_X11_also : Ct mX11_also 0 0 0 0 (nrmS S_X11_also) := by
  refine ct_vm (own := RX11) (by decide +kernel) rfl ?_ ?_
  · intro as μ Q hS
    unfold S_X11_also at hS
    split at hS
    · exact Nat.le_of_ble_eq_true rfl
    · exact hS.elim
  · intro as μ R hS
    unfold S_X11_also at hS
    split at hS
    · exact body_X11_also hS.1 hS.2
    · exact hS.elim
def P_X11_numbered (o lo hi : Int) (μ : Mem) : Prop := o = 201 ∧ PBm μ ∧ r32 lo ∧ r32 hi
def Q_X11_numbered (_ lo hi : Int) (μ μ' : Mem) (r : Int) : Prop := PBm μ' ∧ PFm μ μ' ∧ μ' 204 = μ 204 ∧ μ' 201 9 = μ 201 9 ∧
  ((μ 201 8 = 1 ∧ r = lo ∧ μ' 201 11 = 0 ∧ μ' 201 8 = 1 ∧ flM μ' = flM μ) ∨
   (μ 201 8 = 0 ∧ μ 201 5 ≠ 1 ∧ r = lo ∧ μ' 201 11 = 0 ∧ μ' 201 8 = 1 ∧ flM μ' = (1, μ 201 4)) ∨
   (μ 201 8 = 0 ∧ μ 201 5 = 1 ∧ μ' 201 8 = 0 ∧ AdvX (TX μ) (μ 201 2) (μ 201 3) μ' ∧ (((lo ≤ μ 201 6 ∧ μ 201 6 ≤ hi) ∧ r = μ 201 6 ∧ μ' 201 11 = 1 ∧ flM μ' = flM μ) ∨ (¬ (lo ≤ μ 201 6 ∧ μ 201 6 ≤ hi) ∧ r = lo ∧ μ' 201 11 = 0 ∧ flM μ' = alsoF (flM μ) 2 (μ 201 4)))))
def S_X11_numbered : S0t := fun as μ Q => match as with
  | [(2, x0), (0, x1), (0, x2)] => P_X11_numbered x0 x1 x2 μ ∧ ∀ (μ' : Mem) (r : Int), Q_X11_numbered x0 x1 x2 μ μ' r → Q μ' (some (kI r))
  | _ => False
theorem mono_X11_numbered : Mono S_X11_numbered := by
  intro as μ Q Q' h hS
  unfold S_X11_numbered at hS ⊢
  split at hS
  · exact ⟨hS.1, fun μ' r q => h _ _ (hS.2 _ _ q)⟩
  · exact hS.elim
def iX11_numbered : Inf := (kX11_numbered, fTX11, pTX11, cTX11, lTX11, sTX11, [(159, 0, 0, 11, S_X11_ends), (162, 1, 3, 0, S_X11_isIn), (166, 0, 2, 11, S_X11_also), (170, 0, 0, 11, S_X11_advance)])
theorem ok_X11_numbered : infOK iX11_numbered mX11_numbered RX11 4 89 := ⟨kkX11_numbered, fTX11_ok, pTX11_ok _, cTX11_ok, lTX11_ok, sTX11_ok, c_cons ⟨mX11_ends, 0, 0, ct_X11_ends, mmX11_ends, vvX11_ends, lkX11_159, ⟨by decide, by decide⟩, ⟨_, _, rfl⟩, by decide, mono_X11_ends⟩ (c_cons ⟨mX11_isIn, 0, 0, ct_X11_isIn, mmX11_isIn, stX11_isIn, lkX11_162, ⟨by decide, by decide⟩, mono_X11_isIn⟩ (c_cons ⟨mX11_also, 0, 0, ct_X11_also, mmX11_also, vvX11_also, lkX11_166, ⟨by decide, by decide⟩, ⟨_, _, rfl⟩, by decide, mono_X11_also⟩ (c_cons ⟨mX11_advance, 3, 66, ct_X11_advance, mmX11_advance, vvX11_advance, lkX11_170, ⟨by decide, by decide⟩, ⟨_, _, rfl⟩, by decide, mono_X11_advance⟩ (c_nil))))⟩
theorem mt_X11_numbered : mtOK [] RX11 4 89 := mt_nil
abbrev V_X11_numbered (R : Mem → Option AV → Prop) (pc : Nat) (lc : List (Nat × AV)) (μ : Mem) : Prop := VM mX11_numbered RX11 4 89 R pc lc [] μ
set_option maxRecDepth 20000 in
theorem vc_X11_numbered_0 {R : Mem → Option AV → Prop} {lo hi : Int} {μ : Mem} (H : V_X11_numbered R 5 [(0, kR 201), (1, kI lo), (2, kI hi)] (updm μ 201 11 0)) : V_X11_numbered R 0 [(0, kR 201), (1, kI lo), (2, kI hi)] μ := by
  refine vm_step2 mt_X11_numbered ok_X11_numbered [(5, [0, 1, 2]), (24, [1]), (41, [0, 1, 3]), (57, [0, 1, 3]), (61, [0, 1, 3])] 1000 ?_
  show isC 201 11 ∧ 0 = 0 ∧ (0 ≤ (0 : Int) ∧ 0 ≤ 1) ∧ V_X11_numbered R 5 [(0, kR 201), (1, kI lo), (2, kI hi)] (updm μ 201 11 0)
  exact ⟨c_201, rfl, by omega, H⟩
set_option maxRecDepth 20000 in
theorem vc_X11_numbered_5 {R : Mem → Option AV → Prop} {lo hi : Int} {μ : Mem} (H : r32 (μ 201 8) ∧ ((¬ (μ 201 8) = 0) → P_X11_ends 201 μ ∧ (∀ (μ1 : Mem), Q_X11_ends 201 μ μ1 → V_X11_numbered R 24 [(1, kI lo)] μ1)) ∧ (¬ (¬ (μ 201 8) = 0) → r32 (μ 201 5) ∧ (((μ 201 5) = (1 : Int)) → P_X11_isIn (μ 201 6) lo hi μ ∧ (0 ≤ (F_X11_isIn (μ 201 6) lo hi μ) ∧ (F_X11_isIn (μ 201 6) lo hi μ) ≤ 1) ∧ V_X11_numbered R 41 [(0, kR 201), (1, kI lo), (3, kI (μ 201 6))] (updm μ 201 11 (F_X11_isIn (μ 201 6) lo hi μ))) ∧ (¬ ((μ 201 5) = (1 : Int)) → P_X11_ends 201 μ ∧ (∀ (μ4 : Mem), Q_X11_ends 201 μ μ4 → V_X11_numbered R 24 [(1, kI lo)] μ4)))) : V_X11_numbered R 5 [(0, kR 201), (1, kI lo), (2, kI hi)] μ := by
  refine vm_step2 mt_X11_numbered ok_X11_numbered [(5, [0, 1, 2]), (24, [1]), (41, [0, 1, 3]), (57, [0, 1, 3]), (61, [0, 1, 3])] 1000 ?_
  show isC 201 11 ∧ r32 (μ 201 8) ∧ ((¬ (μ 201 8) = 0) → isC 201 11 ∧ P_X11_ends 201 μ ∧ (∀ (μ1 : Mem), Q_X11_ends 201 μ μ1 → V_X11_numbered R 24 [(1, kI lo)] μ1)) ∧ (¬ (¬ (μ 201 8) = 0) → isC 201 11 ∧ (r32 (μ 201 5) ∧ r32 (1 : Int)) ∧ (((μ 201 5) = (1 : Int)) → isC 201 11 ∧ P_X11_isIn (μ 201 6) lo hi μ ∧ isC 201 11 ∧ 0 = 0 ∧ (0 ≤ (F_X11_isIn (μ 201 6) lo hi μ) ∧ (F_X11_isIn (μ 201 6) lo hi μ) ≤ 1) ∧ V_X11_numbered R 41 [(0, kR 201), (1, kI lo), (3, kI (μ 201 6))] (updm μ 201 11 (F_X11_isIn (μ 201 6) lo hi μ))) ∧ (¬ ((μ 201 5) = (1 : Int)) → isC 201 11 ∧ P_X11_ends 201 μ ∧ (∀ (μ4 : Mem), Q_X11_ends 201 μ μ4 → V_X11_numbered R 24 [(1, kI lo)] μ4)))
  exact ⟨c_201, ⟨H.1, fun hc8 => ⟨c_201, (H.2.1 hc8).1, fun μ1 hq3 => ((H.2.1 hc8).2 μ1 hq3)⟩, fun hc8 => ⟨c_201, ⟨⟨(H.2.2 hc8).1, by unfold r32; omega⟩, fun hc7 => ⟨c_201, ⟨((H.2.2 hc8).2.1 hc7).1, ⟨c_201, rfl, ((H.2.2 hc8).2.1 hc7).2.1, ((H.2.2 hc8).2.1 hc7).2.2⟩⟩⟩, fun hc7 => ⟨c_201, ((H.2.2 hc8).2.2 hc7).1, fun μ4 hq6 => (((H.2.2 hc8).2.2 hc7).2 μ4 hq6)⟩⟩⟩⟩⟩
set_option maxRecDepth 20000 in
theorem vc_X11_numbered_24 {R : Mem → Option AV → Prop} {lo : Int} {μ : Mem} (H : R μ (some (kI lo))) : V_X11_numbered R 24 [(1, kI lo)] μ := by
  refine vm_step2 mt_X11_numbered ok_X11_numbered [(5, [0, 1, 2]), (24, [1]), (41, [0, 1, 3]), (57, [0, 1, 3]), (61, [0, 1, 3])] 1000 ?_
  show R μ (some (kI lo))
  exact H
set_option maxRecDepth 20000 in
theorem vc_X11_numbered_41 {R : Mem → Option AV → Prop} {lo n : Int} {μ : Mem} (H : r32 (μ 201 11) ∧ ((¬ (μ 201 11) = 0) → V_X11_numbered R 57 [(0, kR 201), (1, kI lo), (3, kI n)] μ) ∧ (¬ (¬ (μ 201 11) = 0) → P_X11_also 201 2 (μ 201 4) μ ∧ (∀ (μ9 : Mem), Q_X11_also 201 2 (μ 201 4) μ μ9 → V_X11_numbered R 57 [(0, kR 201), (1, kI lo), (3, kI n)] μ9))) : V_X11_numbered R 41 [(0, kR 201), (1, kI lo), (3, kI n)] μ := by
  refine vm_step2 mt_X11_numbered ok_X11_numbered [(5, [0, 1, 2]), (24, [1]), (41, [0, 1, 3]), (57, [0, 1, 3]), (61, [0, 1, 3])] 1000 ?_
  show isC 201 11 ∧ r32 (μ 201 11) ∧ ((¬ (μ 201 11) = 0) → V_X11_numbered R 57 [(0, kR 201), (1, kI lo), (3, kI n)] μ) ∧ (¬ (¬ (μ 201 11) = 0) → isC 201 11 ∧ isC 201 11 ∧ P_X11_also 201 2 (μ 201 4) μ ∧ (∀ (μ9 : Mem), Q_X11_also 201 2 (μ 201 4) μ μ9 → V_X11_numbered R 57 [(0, kR 201), (1, kI lo), (3, kI n)] μ9))
  exact ⟨c_201, ⟨H.1, fun hc12 => (H.2.1 hc12), fun hc12 => ⟨c_201, ⟨c_201, (H.2.2 hc12).1, fun μ9 hq11 => ((H.2.2 hc12).2 μ9 hq11)⟩⟩⟩⟩
set_option maxRecDepth 20000 in
theorem vc_X11_numbered_57 {R : Mem → Option AV → Prop} {lo n : Int} {μ : Mem} (H : P_X11_advance 201 μ ∧ (∀ (μ13 : Mem), Q_X11_advance 201 μ μ13 → V_X11_numbered R 61 [(0, kR 201), (1, kI lo), (3, kI n)] μ13)) : V_X11_numbered R 57 [(0, kR 201), (1, kI lo), (3, kI n)] μ := by
  refine vm_step2 mt_X11_numbered ok_X11_numbered [(5, [0, 1, 2]), (24, [1]), (41, [0, 1, 3]), (57, [0, 1, 3]), (61, [0, 1, 3])] 1000 ?_
  show isC 201 11 ∧ P_X11_advance 201 μ ∧ (∀ (μ13 : Mem), Q_X11_advance 201 μ μ13 → V_X11_numbered R 61 [(0, kR 201), (1, kI lo), (3, kI n)] μ13)
  exact ⟨c_201, H.1, fun μ13 hq15 => (H.2 μ13 hq15)⟩
set_option maxRecDepth 20000 in
theorem vc_X11_numbered_61 {R : Mem → Option AV → Prop} {lo n : Int} {μ : Mem} (H : r32 (μ 201 11) ∧ (((μ 201 11) = 0) → R μ (some (kI lo))) ∧ (¬ ((μ 201 11) = 0) → R μ (some (kI n)))) : V_X11_numbered R 61 [(0, kR 201), (1, kI lo), (3, kI n)] μ := by
  refine vm_step2 mt_X11_numbered ok_X11_numbered [(5, [0, 1, 2]), (24, [1]), (41, [0, 1, 3]), (57, [0, 1, 3]), (61, [0, 1, 3])] 1000 ?_
  show isC 201 11 ∧ r32 (μ 201 11) ∧ (((μ 201 11) = 0) → R μ (some (kI lo))) ∧ (¬ ((μ 201 11) = 0) → R μ (some (kI n)))
  exact ⟨c_201, ⟨H.1, fun hc16 => (H.2.1 hc16), fun hc16 => (H.2.2 hc16)⟩⟩
theorem also_fl {μ : Mem} {k p : Int} (h : μ 201 8 = 0) : flM (if μ 201 8 ≠ 0 ∨ (μ 202 3 ≠ 0 ∧ (μ 202 4 < p ∨ (μ 202 4 = p ∧ μ 202 3 ≤ k))) then μ else updm (updm μ 202 3 k) 202 4 p) = alsoF (flM μ) k p := by
  unfold alsoF flM
  by_cases c : μ 202 3 ≠ 0 ∧ (μ 202 4 < p ∨ (μ 202 4 = p ∧ μ 202 3 ≤ k))
  · rw [if_pos (Or.inr c), if_pos c]
  · rw [if_neg (fun q => by rcases q with q | q; exact q h; exact c q), if_neg c]
    show (updm (updm μ 202 3 k) 202 4 p 202 3, updm (updm μ 202 3 k) 202 4 p 202 4) = (k, p)
    rw [ru_eq, r1_eq, r1_ne (by omega), ru_eq, r1_eq]
/-- what `also` keeps -/
theorem also_PB {μ m : Mem} {k p : Int} (hb : PBm μ) (hk : 0 ≤ k ∧ k ≤ 10) (hp : 0 ≤ p ∧ p ≤ 500) (h : m = if μ 201 8 ≠ 0 ∨ (μ 202 3 ≠ 0 ∧ (μ 202 4 < p ∨ (μ 202 4 = p ∧ μ 202 3 ≤ k))) then μ else updm (updm μ 202 3 k) 202 4 p) : PBm m ∧ PFm μ m ∧ m 201 = μ 201 ∧ m 204 = μ 204 ∧ TX m = TX μ := by
  by_cases c : μ 201 8 ≠ 0 ∨ (μ 202 3 ≠ 0 ∧ (μ 202 4 < p ∨ (μ 202 4 = p ∧ μ 202 3 ≤ k)))
  · rw [if_pos c] at h
    subst h
    exact ⟨hb, PFm_0 _, rfl, rfl, rfl⟩
  · rw [if_neg c] at h
    have e1 : m 201 = μ 201 := by rw [h, ru_ne (by omega), ru_ne (by omega)]
    have e3 : m 202 3 = k := by rw [h, ru_eq, r1_ne (by omega), ru_eq, r1_eq]
    have e4 : m 202 4 = p := by rw [h, ru_eq, r1_eq]
    have pf : PFm μ m := ⟨fun f _ => by rw [e1], fun j a b => by rw [h, ru_eq, r1_ne b, ru_eq, r1_ne a], fun z _ a _ => by rw [h, ru_ne a, ru_ne a]⟩
    obtain ⟨b1, b2, b3, b4, b5, b6, b7, b8⟩ := hb
    have tx := pf.tx b5
    exact ⟨⟨by rw [e1]; exact b1, by rw [e3]; exact hk, by rw [e4]; omega, by rw [e1]; exact b4, tx.2.1, by rw [e1]; exact b6, by rw [e1]; exact b7, by rw [e1]; exact b8⟩, pf, e1, by rw [h, ru_ne (by omega), ru_ne (by omega)], tx.1⟩
theorem ends_PB {μ m : Mem} (hb : PBm μ) (h : m = if μ 201 8 = 0 then updm (updm (updm μ 201 8 1) 202 3 1) 202 4 (μ 201 4) else μ) : PBm m ∧ PFm μ m ∧ m 204 = μ 204 ∧ (∀ f : Int, f ≠ 8 → m 201 f = μ 201 f) ∧ m 201 8 = 1 ∧ (μ 201 8 = 1 → flM m = flM μ) ∧ (μ 201 8 = 0 → flM m = (1, μ 201 4)) := by
  obtain ⟨b1, b2, b3, b4, b5, b6, b7, b8⟩ := hb
  by_cases c : μ 201 8 = 0
  · rw [if_pos c] at h
    have e1 : ∀ f : Int, f ≠ 8 → m 201 f = μ 201 f := fun f hf => by rw [h, ru_ne (by omega), ru_ne (by omega), ru_eq, r1_ne hf]
    have e8 : m 201 8 = 1 := by rw [h, ru_ne (by omega), ru_ne (by omega), ru_eq, r1_eq]
    have e3 : m 202 3 = 1 := by rw [h, ru_eq, r1_ne (by omega), ru_eq, r1_eq]
    have e4 : m 202 4 = μ 201 4 := by rw [h, ru_eq, r1_eq]
    have pf : PFm μ m := ⟨fun f hf => e1 f (by omega), fun j a b => by rw [h, ru_eq, r1_ne b, ru_eq, r1_ne a, ru_ne (by omega)], fun z a b _ => by rw [h, ru_ne b, ru_ne b, ru_ne a]⟩
    have tx := pf.tx b5
    have q2 := e1 2 (by omega)
    have q3 := e1 3 (by omega)
    have q4 := e1 4 (by omega)
    have q5 := e1 5 (by omega)
    have q6 := e1 6 (by omega)
    refine ⟨⟨Or.inr e8, by rw [e3]; omega, by rw [e4]; omega, by rw [q5]; exact b4, tx.2.1, by rw [q3, q2]; exact b6, by rw [q4]; exact b7, by rw [q5, q6]; exact b8⟩, pf, by rw [h, ru_ne (by omega), ru_ne (by omega), ru_ne (by omega)], e1, e8, fun q => by omega, fun _ => ?_⟩
    unfold flM
    rw [e3, e4]
  · rw [if_neg c] at h
    subst h
    exact ⟨⟨b1, b2, b3, b4, b5, b6, b7, b8⟩, PFm_0 _, rfl, fun _ _ => rfl, by omega, fun _ => rfl, fun q => absurd q c⟩
theorem good_PB {μ m : Mem} {w : Int} (hb : PBm μ) (h : m = updm μ 201 11 w) : PBm m ∧ PFm μ m ∧ (∀ f : Int, f ≠ 11 → m 201 f = μ 201 f) ∧ m 201 11 = w ∧ m 202 = μ 202 ∧ m 204 = μ 204 := by
  have e1 : ∀ f : Int, f ≠ 11 → m 201 f = μ 201 f := fun f hf => by rw [h, ru_eq, r1_ne hf]
  have e2 : m 202 = μ 202 := by rw [h, ru_ne (by omega)]
  have pf : PFm μ m := ⟨fun f hf => e1 f (by omega), fun j _ _ => by rw [e2], fun z a _ _ => by rw [h, ru_ne a]⟩
  obtain ⟨b1, b2, b3, b4, b5, b6, b7, b8⟩ := hb
  have tx := pf.tx b5
  have q2 := e1 2 (by omega)
  have q3 := e1 3 (by omega)
  have q4 := e1 4 (by omega)
  have q5 := e1 5 (by omega)
  have q6 := e1 6 (by omega)
  have q8 := e1 8 (by omega)
  exact ⟨⟨by rw [q8]; exact b1, by rw [e2]; exact b2, by rw [e2]; exact b3, by rw [q5]; exact b4, tx.2.1, by rw [q3, q2]; exact b6, by rw [q4]; exact b7, by rw [q5, q6]; exact b8⟩, pf, e1, by rw [h, ru_eq, r1_eq], e2, by rw [h, ru_ne (by omega)]⟩
theorem body_X11_numbered {o lo hi : Int} {μ : Mem} {R : Mem → Option AV → Prop} (h : P_X11_numbered o lo hi μ) (hR : ∀ (μ' : Mem) (r : Int), Q_X11_numbered o lo hi μ μ' r → R μ' (some (kI r))) : V_X11_numbered R 0 [(0, kR o), (1, kI lo), (2, kI hi)] μ := by
  obtain ⟨rfl, hb, rlo, rhi⟩ := h
  refine vc_X11_numbered_0 ?_
  obtain ⟨m, em⟩ : ∃ m, m = updm μ 201 11 0 := ⟨_, rfl⟩
  rw [← em]
  obtain ⟨pb, pf, f1, g11, e202, e204⟩ := good_PB hb em
  have q5 := f1 5 (by omega)
  have q6 := f1 6 (by omega)
  have q8 := f1 8 (by omega)
  have q9 := f1 9 (by omega)
  have q4 := f1 4 (by omega)
  have fl : flM m = flM μ := by unfold flM; rw [e202]
  -- no number there
  have ends : ∀ m1 : Mem, Q_X11_ends 201 m m1 → (μ 201 8 = 1 ∨ (μ 201 8 = 0 ∧ μ 201 5 ≠ 1)) → V_X11_numbered R 24 [(1, kI lo)] m1 := fun m1 q hc => by
    obtain ⟨a1, a2, a3, a4, a5, a6, a7⟩ := ends_PB pb q
    refine vc_X11_numbered_24 (hR m1 lo ⟨a1, pf.trans a2, by rw [a3, e204], by rw [a4 9 (by omega), q9], ?_⟩)
    have g := a4 11 (by omega)
    rcases hc with hc | hc
    · exact Or.inl ⟨hc, rfl, by rw [g, g11], a5, by rw [a6 (by omega), fl]⟩
    · exact Or.inr (Or.inl ⟨hc.1, hc.2, rfl, by rw [g, g11], a5, by rw [a7 (by omega), q4]⟩)
  refine vc_X11_numbered_5 ⟨by rcases pb.1 with e | e <;> rw [e] <;> exact rr (by omega), fun c => ⟨⟨rfl, pb.1⟩, fun m1 q => ends m1 q (Or.inl (by rcases hb.1 with e | e; exact absurd (by rw [q8, e]) c; exact e))⟩, fun c => ?_⟩
  have w0 : μ 201 8 = 0 := by rw [← q8]; exact Classical.not_not.mp c
  have hb4 := hb.2.2.2.1
  refine ⟨rr (by omega), fun d => ?_, fun d => ⟨⟨rfl, pb.1⟩, fun m1 q => ends m1 q (Or.inr ⟨w0, by rw [← q5]; exact d⟩)⟩⟩
  have t1 : μ 201 5 = 1 := by rw [← q5]; exact d
  have nb := hb.2.2.2.2.2.2.2 t1
  have ir := isIn_r (x := m 201 6) (lo := lo) (hi := hi) (μ := m)
  refine ⟨⟨rr (by omega), rlo, rhi⟩, ir, ?_⟩
  obtain ⟨g, eg⟩ : ∃ g, g = F_X11_isIn (m 201 6) lo hi m := ⟨_, rfl⟩
  rw [← eg] at ir ⊢
  have gi : ¬ g = 0 ↔ lo ≤ μ 201 6 ∧ μ 201 6 ≤ hi := by rw [eg, isIn_1, q6]
  obtain ⟨m2, em2⟩ : ∃ m2, m2 = updm m 201 11 g := ⟨_, rfl⟩
  rw [← em2, q6]
  obtain ⟨pb2, pf2, f2, h11, e2202, e2204⟩ := good_PB pb em2
  have fl2 : flM m2 = flM μ := by unfold flM; rw [e2202, e202]
  have p8 := f2 8 (by omega)
  have p9 := f2 9 (by omega)
  have p4 := f2 4 (by omega)
  have p3 := f2 3 (by omega)
  have p2 := f2 2 (by omega)
  have q3 := f1 3 (by omega)
  have q2 := f1 2 (by omega)
  -- behind the number
  have next : ∀ m3 : Mem, PBm m3 → PFm μ m3 → m3 201 = m2 201 → m3 204 = m2 204 → TX m3 = TX μ → ((lo ≤ μ 201 6 ∧ μ 201 6 ≤ hi) ∧ flM m3 = flM μ ∨ ¬ (lo ≤ μ 201 6 ∧ μ 201 6 ≤ hi) ∧ flM m3 = alsoF (flM μ) 2 (μ 201 4)) → V_X11_numbered R 57 [(0, kR 201), (1, kI lo), (3, kI (μ 201 6))] m3 := fun m3 b3 pf3 e1 e4 etx hfl => by
    refine vc_X11_numbered_57 ⟨⟨rfl, b3.2.2.2.2.1, b3.2.2.2.2.2.1.1, b3.2.2.2.2.2.1.2⟩, fun m4 q => ?_⟩
    obtain ⟨a1, a2, a3⟩ := q
    obtain ⟨b4, pf4, flq, w4⟩ := adv_PB b3 a1 a2 a3
    have i11 : m4 201 11 = g := by rw [a2 11 (by omega), e1, h11]
    have adv : AdvX (TX μ) (μ 201 2) (μ 201 3) m4 := by
      rw [etx, e1, p2, p3, q2, q3] at a1
      exact a1
    have base : PBm m4 ∧ PFm μ m4 ∧ m4 204 = μ 204 ∧ m4 201 9 = μ 201 9 := ⟨b4, pf3.trans pf4, by rw [a3 204 (by omega), e4, e2204, e204], by rw [a2 9 (by omega), e1, p9, q9]⟩
    have w : m4 201 8 = 0 := by rw [w4, e1, p8, q8, w0]
    refine vc_X11_numbered_61 ?_
    rw [i11]
    refine ⟨rr (by omega), fun z => hR m4 lo ⟨base.1, base.2.1, base.2.2.1, base.2.2.2, Or.inr (Or.inr ⟨w0, t1, w, adv, ?_⟩)⟩, fun z => hR m4 _ ⟨base.1, base.2.1, base.2.2.1, base.2.2.2, Or.inr (Or.inr ⟨w0, t1, w, adv, ?_⟩)⟩⟩
    · rcases hfl with ⟨x, _⟩ | ⟨x, y⟩
      · exact absurd z (gi.mpr x)
      · exact Or.inr ⟨x, rfl, by rw [i11, z], by rw [flq, y]⟩
    · rcases hfl with ⟨x, y⟩ | ⟨x, _⟩
      · exact Or.inl ⟨x, rfl, by rw [i11]; omega, by rw [flq, y]⟩
      · exact absurd (gi.mp z) x
  refine vc_X11_numbered_41 ?_
  rw [h11]
  refine ⟨rr (by omega), fun z => next m2 pb2 (pf.trans pf2) rfl rfl (by rw [(pf2.tx pb.2.2.2.2.1).1, (pf.tx hb.2.2.2.2.1).1]) (Or.inl ⟨gi.mp z, fl2⟩), fun z => ⟨⟨rfl, pb2.1, rr (by have := pb2.2.1; omega), rr (by have := pb2.2.2.1; omega), rr (by omega), rr (by have := pb2.2.2.2.2.2.2.1; omega)⟩, fun m3 q => ?_⟩⟩
  have z0 := Classical.not_not.mp z
  obtain ⟨b3, pf3, e1, e4, etx⟩ := also_PB pb2 (by omega) pb2.2.2.2.2.2.2.1 q
  refine next m3 b3 ((pf.trans pf2).trans pf3) e1 e4 (by rw [etx, (pf2.tx pb.2.2.2.2.1).1, (pf.tx hb.2.2.2.2.1).1]) (Or.inr ⟨fun x => gi.mpr x z0, ?_⟩)
  have := also_fl (μ := m2) (k := 2) (p := m2 201 4) (by rw [p8, q8, w0])
  rw [← q, fl2, p4, q4] at this
  exact this
theorem ct_X11_numbered : Ct mX11_numbered 4 89 0 0 (nrmS S_X11_numbered) := by
  refine ct_vm (own := RX11) (by decide +kernel) rfl ?_ ?_
  · intro as μ Q hS
    unfold S_X11_numbered at hS
    split at hS
    · exact Nat.le_of_ble_eq_true rfl
    · exact hS.elim
  · intro as μ R hS
    unfold S_X11_numbered at hS
    split at hS
    · exact body_X11_numbered hS.1 hS.2
    · exact hS.elim
def P_X11_endsLine (o : Int) (μ : Mem) : Prop := o = 201 ∧ PBm μ
def Q_X11_endsLine (_ : Int) (μ μ' : Mem) : Prop := PBm μ' ∧ PFm μ μ' ∧ μ' 204 = μ 204 ∧ μ' 201 9 = μ 201 9 ∧
  ((μ 201 8 = 1 ∧ μ' 201 8 = 1 ∧ flM μ' = flM μ) ∨ (μ 201 8 = 0 ∧ μ 201 5 ≠ 2 ∧ μ' 201 8 = 1 ∧ flM μ' = (1, μ 201 4)) ∨ (μ 201 8 = 0 ∧ μ 201 5 = 2 ∧ μ' 201 8 = 0 ∧ AdvX (TX μ) (μ 201 2) (μ 201 3) μ' ∧ flM μ' = flM μ))
def S_X11_endsLine : S0t := fun as μ Q => match as with
  | [(2, x0)] => P_X11_endsLine x0 μ ∧ ∀ (μ' : Mem) , Q_X11_endsLine x0 μ μ'  → Q μ' none
  | _ => False
theorem mono_X11_endsLine : Mono S_X11_endsLine := by
  intro as μ Q Q' h hS
  unfold S_X11_endsLine at hS ⊢
  split at hS
  · exact ⟨hS.1, fun μ' q => h _ _ (hS.2 _ q)⟩
  · exact hS.elim
def iX11_endsLine : Inf := (kX11_endsLine, fTX11, pTX11, cTX11, lTX11, sTX11, [(159, 0, 0, 11, S_X11_ends), (170, 0, 0, 11, S_X11_advance)])
theorem ok_X11_endsLine : infOK iX11_endsLine mX11_endsLine RX11 4 89 := ⟨kkX11_endsLine, fTX11_ok, pTX11_ok _, cTX11_ok, lTX11_ok, sTX11_ok, c_cons ⟨mX11_ends, 0, 0, ct_X11_ends, mmX11_ends, vvX11_ends, lkX11_159, ⟨by decide, by decide⟩, ⟨_, _, rfl⟩, by decide, mono_X11_ends⟩ (c_cons ⟨mX11_advance, 3, 66, ct_X11_advance, mmX11_advance, vvX11_advance, lkX11_170, ⟨by decide, by decide⟩, ⟨_, _, rfl⟩, by decide, mono_X11_advance⟩ (c_nil))⟩
theorem mt_X11_endsLine : mtOK [] RX11 4 89 := mt_nil
abbrev V_X11_endsLine (R : Mem → Option AV → Prop) (pc : Nat) (lc : List (Nat × AV)) (μ : Mem) : Prop := VM mX11_endsLine RX11 4 89 R pc lc [] μ
set_option maxRecDepth 20000 in
theorem vc_X11_endsLine_0 {R : Mem → Option AV → Prop} {μ : Mem} (H : r32 (μ 201 8) ∧ ((¬ (μ 201 8) = 0) → P_X11_ends 201 μ ∧ (∀ (μ1 : Mem), Q_X11_ends 201 μ μ1 → R μ1 none)) ∧ (¬ (¬ (μ 201 8) = 0) → r32 (μ 201 5) ∧ ((¬ (μ 201 5) = (2 : Int)) → P_X11_ends 201 μ ∧ (∀ (μ4 : Mem), Q_X11_ends 201 μ μ4 → R μ4 none)) ∧ (¬ (¬ (μ 201 5) = (2 : Int)) → P_X11_advance 201 μ ∧ (∀ (μ7 : Mem), Q_X11_advance 201 μ μ7 → R μ7 none)))) : V_X11_endsLine R 0 [(0, kR 201)] μ := by
  refine vm_step2 mt_X11_endsLine ok_X11_endsLine [] 1000 ?_
  show isC 201 11 ∧ r32 (μ 201 8) ∧ ((¬ (μ 201 8) = 0) → isC 201 11 ∧ P_X11_ends 201 μ ∧ (∀ (μ1 : Mem), Q_X11_ends 201 μ μ1 → R μ1 none)) ∧ (¬ (¬ (μ 201 8) = 0) → isC 201 11 ∧ (r32 (μ 201 5) ∧ r32 (2 : Int)) ∧ ((¬ (μ 201 5) = (2 : Int)) → isC 201 11 ∧ P_X11_ends 201 μ ∧ (∀ (μ4 : Mem), Q_X11_ends 201 μ μ4 → R μ4 none)) ∧ (¬ (¬ (μ 201 5) = (2 : Int)) → isC 201 11 ∧ P_X11_advance 201 μ ∧ (∀ (μ7 : Mem), Q_X11_advance 201 μ μ7 → R μ7 none)))
  exact ⟨c_201, ⟨H.1, fun hc11 => ⟨c_201, (H.2.1 hc11).1, fun μ1 hq3 => ((H.2.1 hc11).2 μ1 hq3)⟩, fun hc11 => ⟨c_201, ⟨⟨(H.2.2 hc11).1, by unfold r32; omega⟩, fun hc10 => ⟨c_201, ((H.2.2 hc11).2.1 hc10).1, fun μ4 hq6 => (((H.2.2 hc11).2.1 hc10).2 μ4 hq6)⟩, fun hc10 => ⟨c_201, ((H.2.2 hc11).2.2 hc10).1, fun μ7 hq9 => (((H.2.2 hc11).2.2 hc10).2 μ7 hq9)⟩⟩⟩⟩⟩
theorem body_X11_endsLine {o : Int} {μ : Mem} {R : Mem → Option AV → Prop} (h : P_X11_endsLine o μ) (hR : ∀ μ' : Mem, Q_X11_endsLine o μ μ' → R μ' none) : V_X11_endsLine R 0 [(0, kR o)] μ := by
  obtain ⟨rfl, hb⟩ := h
  have hb4 := hb.2.2.2.1
  have ends : ∀ m1 : Mem, Q_X11_ends 201 μ m1 → (μ 201 8 = 1 ∨ (μ 201 8 = 0 ∧ μ 201 5 ≠ 2)) → R m1 none := fun m1 q hc => by
    obtain ⟨a1, a2, a3, a4, a5, a6, a7⟩ := ends_PB hb q
    refine hR m1 ⟨a1, a2, a3, a4 9 (by omega), ?_⟩
    rcases hc with hc | hc
    · exact Or.inl ⟨hc, a5, a6 hc⟩
    · exact Or.inr (Or.inl ⟨hc.1, hc.2, a5, a7 hc.1⟩)
  refine vc_X11_endsLine_0 ⟨by rcases hb.1 with e | e <;> rw [e] <;> exact rr (by omega), fun c => ⟨⟨rfl, hb.1⟩, fun m1 q => ends m1 q (Or.inl (by rcases hb.1 with e | e; exact absurd e c; exact e))⟩, fun c => ⟨rr (by omega), fun d => ⟨⟨rfl, hb.1⟩, fun m1 q => ends m1 q (Or.inr ⟨Classical.not_not.mp c, d⟩)⟩, fun d => ⟨⟨rfl, hb.2.2.2.2.1, hb.2.2.2.2.2.1.1, hb.2.2.2.2.2.1.2⟩, fun m1 q => ?_⟩⟩⟩
  obtain ⟨a1, a2, a3⟩ := q
  obtain ⟨b4, pf4, flq, w4⟩ := adv_PB hb a1 a2 a3
  exact hR m1 ⟨b4, pf4, a3 204 (by omega), a2 9 (by omega), Or.inr (Or.inr ⟨Classical.not_not.mp c, Classical.not_not.mp d, by rw [w4]; exact Classical.not_not.mp c, a1, flq⟩)⟩
theorem ct_X11_endsLine : Ct mX11_endsLine 4 89 0 0 (nrmS S_X11_endsLine) := by
  refine ct_vm (own := RX11) (by decide +kernel) rfl ?_ ?_
  · intro as μ Q hS
    unfold S_X11_endsLine at hS
    split at hS
    · exact Nat.le_of_ble_eq_true rfl
    · exact hS.elim
  · intro as μ R hS
    unfold S_X11_endsLine at hS
    split at hS
    · exact body_X11_endsLine hS.1 hS.2
    · exact hS.elim
def P_X11_placed (o : Int) (μ : Mem) : Prop := o = 201 ∧ PBm μ ∧ 1 ≤ μ 204 0 ∧ μ 204 0 ≤ 8
def Q_X11_placed (o : Int) (μ μ' : Mem) (r : Int) : Prop := Q_X11_numbered o 0 (μ 204 0 - 1) μ μ' r
def S_X11_placed : S0t := fun as μ Q => match as with
  | [(2, x0)] => P_X11_placed x0 μ ∧ ∀ (μ' : Mem) (r : Int), Q_X11_placed x0 μ μ' r → Q μ' (some (kI r))
  | _ => False
theorem mono_X11_placed : Mono S_X11_placed := by
  intro as μ Q Q' h hS
  unfold S_X11_placed at hS ⊢
  split at hS
  · exact ⟨hS.1, fun μ' r q => h _ _ (hS.2 _ _ q)⟩
  · exact hS.elim
def iX11_placed : Inf := (kX11_placed, fTX11, pTX11, cTX11, lTX11, sTX11, [(173, 0, 2, 11, S_X11_numbered)])
theorem ok_X11_placed : infOK iX11_placed mX11_placed RX11 5 112 := ⟨kkX11_placed, fTX11_ok, pTX11_ok _, cTX11_ok, lTX11_ok, sTX11_ok, c_cons ⟨mX11_numbered, 4, 89, ct_X11_numbered, mmX11_numbered, vvX11_numbered, lkX11_173, ⟨by decide, by decide⟩, ⟨_, _, rfl⟩, by decide, mono_X11_numbered⟩ (c_nil)⟩
theorem mt_X11_placed : mtOK [] RX11 5 112 := mt_nil
abbrev V_X11_placed (R : Mem → Option AV → Prop) (pc : Nat) (lc : List (Nat × AV)) (μ : Mem) : Prop := VM mX11_placed RX11 5 112 R pc lc [] μ
set_option maxRecDepth 20000 in
theorem vc_X11_placed_0 {R : Mem → Option AV → Prop} {μ : Mem} (H : P_X11_numbered 201 0 ((μ 204 0) - 1) μ ∧ (∀ (μ1 : Mem) (rv2 : Int), Q_X11_numbered 201 0 ((μ 204 0) - 1) μ μ1 rv2 → R μ1 (some (kI rv2)))) : V_X11_placed R 0 [(0, kR 201)] μ := by
  refine vm_step2 mt_X11_placed ok_X11_placed [] 1000 ?_
  show isC 201 11 ∧ inA 204 0 (0 : Int) ∧ isC 201 11 ∧ P_X11_numbered 201 0 ((μ 204 0) - 1) μ ∧ (∀ (μ1 : Mem) (rv2 : Int), Q_X11_numbered 201 0 ((μ 204 0) - 1) μ μ1 rv2 → R μ1 (some (kI rv2)))
  exact ⟨c_201, ⟨isArr.in a_204 (by omega) (by omega), ⟨c_201, H.1, fun μ1 rv2 hq3 => (H.2 μ1 rv2 hq3)⟩⟩⟩
theorem body_X11_placed {o : Int} {μ : Mem} {R : Mem → Option AV → Prop} (h : P_X11_placed o μ) (hR : ∀ (μ' : Mem) (r : Int), Q_X11_placed o μ μ' r → R μ' (some (kI r))) : V_X11_placed R 0 [(0, kR o)] μ := by
  obtain ⟨rfl, hb, h0⟩ := h
  exact vc_X11_placed_0 ⟨⟨rfl, hb, rr (by omega), rr (by omega)⟩, fun m r q => hR m r q⟩
theorem ct_X11_placed : Ct mX11_placed 5 112 0 0 (nrmS S_X11_placed) := by
  refine ct_vm (own := RX11) (by decide +kernel) rfl ?_ ?_
  · intro as μ Q hS
    unfold S_X11_placed at hS
    split at hS
    · exact Nat.le_of_ble_eq_true rfl
    · exact hS.elim
  · intro as μ R hS
    unfold S_X11_placed at hS
    split at hS
    · exact body_X11_placed hS.1 hS.2
    · exact hS.elim
