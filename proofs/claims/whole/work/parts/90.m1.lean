/-! the model's memory: what is told in it, as the same value -/
def tmF (f : Int → Int) (b : Int) : TV := fun k => match k with
  | 0 => fun _ => f b
  | 1 => fun _ => f (b + 1)
  | 2 => fun _ => f (b + 2)
  | 3 => fun _ => f (b + 3)
  | 4 => clip 8 (fun j => f (b + 10 + j))
  | 5 => clip 8 (fun j => f (b + 20 + j))
  | 6 => clip 8 (fun j => f (b + 30 + j))
  | 7 => clip 64 (fun j => f (b + 40 + j))
  | 8 => fun _ => f (b + 4)
  | 9 => clip (f (b + 4)) (fun w => f (b + 104 + 18 * w))
  | 10 => clip (f (b + 4)) (fun w => f (b + 105 + 18 * w))
  | 11 => fun j => if 0 ≤ j ∧ j / 16 < f (b + 4) ∧ j % 16 < f (b + 104 + 18 * (j / 16)) then f (b + 106 + 18 * (j / 16) + j % 16) else 0
  | 12 => fun _ => f (b + 250)
  | _ => clip (f (b + 250)) (fun i => f (b + 251 + i))
def nmM (k : Int) : Int := if k < 3 then k + 2 else if k < 5 then k - 3 else k
def wmF (f : Int → Int) (q : Int) : WVt := (clip (f (q + 2)) (fun j => f (q + 10 + j)), clip 9 (fun k => f (q + nmM k)), fun i => if 0 ≤ i ∧ i < f q then tmF f (q + 510 + 260 * i) else tv0)
def stM (μ : Mem) : STt := (wmF (μ 202) 0, clip 3 (μ 203), fun k => if 0 ≤ k ∧ k < 3 ∧ μ 203 k = 1 then wmF (μ 202) (1290 * (k + 1)) else wv0)
/-- every town has a chance -/
def VOk (v : TV) : Prop := TVok v ∧ joined v ∧ calm v ∧ pozV v ∧ (0 ≤ v 1 0 ∧ v 1 0 ≤ 20) ∧ 2 * v 1 0 = sm (lanesV v) (v 0 0)
def WOk (w : WVt) : Prop := (0 ≤ w.2.1 0 ∧ w.2.1 0 ≤ 500) ∧ (0 ≤ w.2.1 3 ∧ w.2.1 3 ≤ 3) ∧ (0 ≤ w.2.1 4 ∧ w.2.1 4 ≤ 1000) ∧ (∀ f : Int, 0 ≤ f → f < 9 → r32 (w.2.1 f)) ∧ (∀ j : Int, 0 ≤ j → j < w.2.1 0 → 0 ≤ w.1 j ∧ w.1 j ≤ 255) ∧ ∀ i : Int, 0 ≤ i → i < w.2.1 3 → VOk (w.2.2 i)
def SOk (s : STt) : Prop := WOk s.1 ∧ ∀ k : Int, 0 ≤ k → k < 3 → (s.2.1 k = 0 ∨ s.2.1 k = 1) ∧ (s.2.1 k = 1 → WOk (s.2.2 k))
theorem mn_nm (μ : Mem) {k : Int} (h0 : 0 ≤ k) (h1 : k < 9) : (stM μ).1.2.1 k = μ 202 (nmM k) := by
  have e : (stM μ).1.2.1 k = μ 202 (0 + nmM k) := clip_in (n := 9) (j := k) (f := fun k => μ 202 (0 + nmM k)) h0 h1
  rw [e, Int.zero_add]
theorem mn_0 (μ : Mem) : (stM μ).1.2.1 0 = μ 202 2 := mn_nm μ (by omega) (by omega)
theorem mn_1 (μ : Mem) : (stM μ).1.2.1 1 = μ 202 3 := mn_nm μ (by omega) (by omega)
theorem mn_2 (μ : Mem) : (stM μ).1.2.1 2 = μ 202 4 := mn_nm μ (by omega) (by omega)
theorem mn_3 (μ : Mem) : (stM μ).1.2.1 3 = μ 202 0 := mn_nm μ (by omega) (by omega)
theorem mn_4 (μ : Mem) : (stM μ).1.2.1 4 = μ 202 1 := mn_nm μ (by omega) (by omega)
theorem mn_5 (μ : Mem) {k : Int} (h0 : 5 ≤ k) (h1 : k < 9) : (stM μ).1.2.1 k = μ 202 k := by
  rw [mn_nm μ (by omega) h1]
  unfold nmM
  rw [if_neg (by omega), if_neg (by omega)]
theorem mn_h (μ : Mem) {k : Int} (h0 : 0 ≤ k) (h1 : k < 3) : (stM μ).2.1 k = μ 203 k := clip_in (n := 3) (j := k) (f := μ 203) h0 h1
theorem mn_t (μ : Mem) {n : Int} (h : 0 ≤ n ∧ n < μ 202 0) : (stM μ).1.2.2 n = tmF (μ 202) (510 + 260 * n) := by
  show (if 0 ≤ n ∧ n < μ 202 0 then tmF (μ 202) (0 + 510 + 260 * n) else tv0) = _
  rw [if_pos h]
  rfl
theorem mn_tape (μ : Mem) {j : Int} (h0 : 0 ≤ j) (h1 : j < μ 202 2) : (stM μ).1.1 j = μ 202 (10 + j) := by
  have e : (stM μ).1.1 j = μ 202 (0 + 10 + j) := clip_in (n := μ 202 2) (j := j) (f := fun j => μ 202 (0 + 10 + j)) h0 h1
  rw [e]
  rfl
theorem stM_frame {μ m : Mem} (h2 : m 202 = μ 202) (h3 : m 203 = μ 203) : stM m = stM μ := by
  unfold stM
  rw [h2, h3]
/-- the town at hand -/
def vm (μ : Mem) : TV := tmF (μ 202) (μ 201 12)
def MB (μ : Mem) : Prop := (μ 201 12 = 510 ∨ μ 201 12 = 770 ∨ μ 201 12 = 1030) ∧ μ 201 13 = vm μ 0 0 ∧ VOk (vm μ)
theorem MB_frame {μ m : Mem} (h : MB μ) (h2 : m 202 = μ 202) (hb : m 201 12 = μ 201 12) (hp : m 201 13 = μ 201 13) : MB m ∧ vm m = vm μ := by
  have e : vm m = vm μ := by unfold vm; rw [h2, hb]
  refine ⟨?_, e⟩
  unfold MB at *
  rw [e, hb, hp]
  exact h
theorem v0_ (μ : Mem) : vm μ 0 0 = μ 202 (μ 201 12) := rfl
theorem v1_ (μ : Mem) : vm μ 1 0 = μ 202 (μ 201 12 + 1) := rfl
theorem v2_ (μ : Mem) : vm μ 2 0 = μ 202 (μ 201 12 + 2) := rfl
theorem v3_ (μ : Mem) : vm μ 3 0 = μ 202 (μ 201 12 + 3) := rfl
theorem v8_ (μ : Mem) : vm μ 8 0 = μ 202 (μ 201 12 + 4) := rfl
theorem v12_ (μ : Mem) : vm μ 12 0 = μ 202 (μ 201 12 + 250) := rfl
theorem v4_ (μ : Mem) {a : Int} (h0 : 0 ≤ a) (h1 : a < 8) : vm μ 4 a = μ 202 (μ 201 12 + 10 + a) := clip_in (n := 8) (f := fun j => μ 202 (μ 201 12 + 10 + j)) h0 h1
theorem v5_ (μ : Mem) {a : Int} (h0 : 0 ≤ a) (h1 : a < 8) : vm μ 5 a = μ 202 (μ 201 12 + 20 + a) := clip_in (n := 8) (f := fun j => μ 202 (μ 201 12 + 20 + j)) h0 h1
theorem v6_ (μ : Mem) {a : Int} (h0 : 0 ≤ a) (h1 : a < 8) : vm μ 6 a = μ 202 (μ 201 12 + 30 + a) := clip_in (n := 8) (f := fun j => μ 202 (μ 201 12 + 30 + j)) h0 h1
theorem v7_ (μ : Mem) {a : Int} (h0 : 0 ≤ a) (h1 : a < 64) : vm μ 7 a = μ 202 (μ 201 12 + 40 + a) := clip_in (n := 64) (f := fun j => μ 202 (μ 201 12 + 40 + j)) h0 h1
theorem v9_ (μ : Mem) {w : Int} (h0 : 0 ≤ w) (h1 : w < vm μ 8 0) : vm μ 9 w = μ 202 (μ 201 12 + 104 + 18 * w) := clip_in (n := vm μ 8 0) (f := fun w => μ 202 (μ 201 12 + 104 + 18 * w)) h0 h1
theorem v10_ (μ : Mem) {w : Int} (h0 : 0 ≤ w) (h1 : w < vm μ 8 0) : vm μ 10 w = μ 202 (μ 201 12 + 105 + 18 * w) := clip_in (n := vm μ 8 0) (f := fun w => μ 202 (μ 201 12 + 105 + 18 * w)) h0 h1
theorem v11_ (μ : Mem) {w i : Int} (h0 : 0 ≤ w) (h1 : w < vm μ 8 0) (i0 : 0 ≤ i) (i1 : i < vm μ 9 w) (i2 : i < 16) : vm μ 11 (16 * w + i) = μ 202 (μ 201 12 + 106 + 18 * w + i) := by
  have d : (16 * w + i) / 16 = w := by omega
  have m : (16 * w + i) % 16 = i := by omega
  have h9 := v9_ μ h0 h1
  have e8 := v8_ μ
  show (if 0 ≤ 16 * w + i ∧ (16 * w + i) / 16 < μ 202 (μ 201 12 + 4) ∧ (16 * w + i) % 16 < μ 202 (μ 201 12 + 104 + 18 * ((16 * w + i) / 16)) then μ 202 (μ 201 12 + 106 + 18 * ((16 * w + i) / 16) + (16 * w + i) % 16) else 0) = _
  rw [d, m, if_pos ⟨by omega, by omega, by omega⟩]
theorem v13_ (μ : Mem) {i : Int} (h0 : 0 ≤ i) (h1 : i < vm μ 12 0) : vm μ 13 i = μ 202 (μ 201 12 + 251 + i) := clip_in (n := vm μ 12 0) (f := fun i => μ 202 (μ 201 12 + 251 + i)) h0 h1
/-- a question changes nothing that is told -/
def AskM (μ μ' : Mem) : Prop := ∀ z : Int, (z < 201 ∨ z = 202 ∨ z = 203) → μ' z = μ z
theorem AskM_0 (μ : Mem) : AskM μ μ := fun _ _ => rfl
theorem AskM.trans {μ m m' : Mem} (h : AskM μ m) (h' : AskM m m') : AskM μ m' := fun z hz => by rw [h' z hz, h z hz]
theorem AskM.st {μ m : Mem} (h : AskM μ m) : stM m = stM μ := stM_frame (h 202 (by omega)) (h 203 (by omega))
/-- fields of the model other than these stay -/
def FldM (μ μ' : Mem) (l : List Int) : Prop := ∀ f : Int, f ∉ l → μ' 201 f = μ 201 f
def P_X11_isIn (x lo hi : Int) (_ : Mem) : Prop := r32 x ∧ r32 lo ∧ r32 hi
def F_X11_isIn (x lo hi : Int) (_ : Mem) : Int := if lo ≤ x ∧ x ≤ hi then 1 else 0
def S_X11_isIn : S0t := fun as μ Q => match as with
  | [(0, x0), (0, x1), (0, x2)] => P_X11_isIn x0 x1 x2 μ ∧ Q μ (some (kI (F_X11_isIn x0 x1 x2 μ)))
  | _ => False
theorem mono_X11_isIn : Mono S_X11_isIn := by
  intro as μ Q Q' h hS
  unfold S_X11_isIn at hS ⊢
  split at hS
  · exact ⟨hS.1, h _ _ hS.2⟩
  · exact hS.elim
def iX11_isIn : Inf := (kX11_isIn, fTX11, pTX11, cTX11, lTX11, sTX11, [])
theorem ok_X11_isIn : infOK iX11_isIn mX11_isIn RX11 0 0 := ⟨kkX11_isIn, fTX11_ok, pTX11_ok _, cTX11_ok, lTX11_ok, sTX11_ok, c_nil⟩
theorem mt_X11_isIn : mtOK [] RX11 0 0 := mt_nil
abbrev V_X11_isIn (R : Mem → Option AV → Prop) (pc : Nat) (lc : List (Nat × AV)) (μ : Mem) : Prop := VM mX11_isIn RX11 0 0 R pc lc [] μ
set_option maxRecDepth 20000 in
theorem vc_X11_isIn_0 {R : Mem → Option AV → Prop} {x lo hi : Int} {μ : Mem} (H : r32 x ∧ r32 lo ∧ ((x < lo) → R μ (some (kI 0))) ∧ (¬ (x < lo) → r32 x ∧ r32 hi ∧ ((hi < x) → R μ (some (kI 0))) ∧ (¬ (hi < x) → R μ (some (kI 1))))) : V_X11_isIn R 0 [(0, kI x), (1, kI lo), (2, kI hi)] μ := by
  refine vm_step2 mt_X11_isIn ok_X11_isIn [] 1000 ?_
  show (r32 x ∧ r32 lo) ∧ ((x < lo) → (0 ≤ (0 : Int) ∧ (0 : Int) ≤ 1) ∧ R μ (some (kI 0))) ∧ (¬ (x < lo) → (r32 x ∧ r32 hi) ∧ ((hi < x) → (0 ≤ (0 : Int) ∧ (0 : Int) ≤ 1) ∧ R μ (some (kI 0))) ∧ (¬ (hi < x) → (0 ≤ (1 : Int) ∧ (1 : Int) ≤ 1) ∧ R μ (some (kI 1))))
  exact ⟨⟨H.1, H.2.1⟩, fun hc2 => ⟨⟨by omega, by omega⟩, (H.2.2.1 hc2)⟩, fun hc2 => ⟨⟨(H.2.2.2 hc2).1, (H.2.2.2 hc2).2.1⟩, fun hc1 => ⟨⟨by omega, by omega⟩, ((H.2.2.2 hc2).2.2.1 hc1)⟩, fun hc1 => ⟨⟨by omega, by omega⟩, ((H.2.2.2 hc2).2.2.2 hc1)⟩⟩⟩
theorem body_X11_isIn {x lo hi : Int} {μ : Mem} {R : Mem → Option AV → Prop} (h : P_X11_isIn x lo hi μ) (hR : R μ (some (kI (F_X11_isIn x lo hi μ)))) : V_X11_isIn R 0 [(0, kI x), (1, kI lo), (2, kI hi)] μ := by
  obtain ⟨h1, h2, h3⟩ := h
  unfold F_X11_isIn at hR
  refine vc_X11_isIn_0 ⟨h1, h2, fun c => ?_, fun c => ⟨h1, h3, fun c2 => ?_, fun c2 => ?_⟩⟩
  · rwa [if_neg (by omega)] at hR
  · rwa [if_neg (by omega)] at hR
  · rwa [if_pos (by omega)] at hR
theorem isIn_r {x lo hi : Int} {μ : Mem} : 0 ≤ F_X11_isIn x lo hi μ ∧ F_X11_isIn x lo hi μ ≤ 1 := by
  unfold F_X11_isIn
  split <;> omega
theorem isIn_1 {x lo hi : Int} {μ : Mem} : ¬ F_X11_isIn x lo hi μ = 0 ↔ lo ≤ x ∧ x ≤ hi := by
  unfold F_X11_isIn
  split <;> omega
theorem ct_X11_isIn : Ct mX11_isIn 0 0 0 0 (nrmS S_X11_isIn) := by
  refine ct_vm (own := RX11) (by decide +kernel) rfl ?_ ?_
  · intro as μ Q hS
    unfold S_X11_isIn at hS
    split at hS
    · exact Nat.le_of_ble_eq_true rfl
    · exact hS.elim
  · intro as μ R hS
    unfold S_X11_isIn at hS
    split at hS
    · exact body_X11_isIn hS.1 hS.2
    · exact hS.elim
def P_X11_of (o k : Int) (μ : Mem) : Prop := o = 201 ∧ (μ 201 12 = 510 ∨ μ 201 12 = 770 ∨ μ 201 12 = 1030) ∧ 0 ≤ k ∧ k < 260
def F_X11_of (_ k : Int) (μ : Mem) : Int := μ 202 (μ 201 12 + k)
def S_X11_of : S0t := fun as μ Q => match as with
  | [(2, x0), (0, x1)] => P_X11_of x0 x1 μ ∧ Q μ (some (kI (F_X11_of x0 x1 μ)))
  | _ => False
theorem mono_X11_of : Mono S_X11_of := by
  intro as μ Q Q' h hS
  unfold S_X11_of at hS ⊢
  split at hS
  · exact ⟨hS.1, h _ _ hS.2⟩
  · exact hS.elim
def iX11_of : Inf := (kX11_of, fTX11, pTX11, cTX11, lTX11, sTX11, [])
theorem ok_X11_of : infOK iX11_of mX11_of RX11 0 0 := ⟨kkX11_of, fTX11_ok, pTX11_ok _, cTX11_ok, lTX11_ok, sTX11_ok, c_nil⟩
theorem mt_X11_of : mtOK [] RX11 0 0 := mt_nil
abbrev V_X11_of (R : Mem → Option AV → Prop) (pc : Nat) (lc : List (Nat × AV)) (μ : Mem) : Prop := VM mX11_of RX11 0 0 R pc lc [] μ
set_option maxRecDepth 20000 in
theorem vc_X11_of_0 {R : Mem → Option AV → Prop} {k : Int} {μ : Mem} (H : (0 ≤ ((μ 201 12) + k) ∧ ((μ 201 12) + k) < 5160) ∧ R μ (some (kI (μ 202 ((μ 201 12) + k))))) : V_X11_of R 0 [(0, kR 201), (1, kI k)] μ := by
  refine vm_step2 mt_X11_of ok_X11_of [] 1000 ?_
  show isC 201 11 ∧ isC 201 11 ∧ inA 202 0 ((μ 201 12) + k) ∧ R μ (some (kI (μ 202 ((μ 201 12) + k))))
  exact ⟨c_201, ⟨c_201, ⟨isArr.in a_202 H.1.1 H.1.2, H.2⟩⟩⟩
theorem body_X11_of {o k : Int} {μ : Mem} {R : Mem → Option AV → Prop} (h : P_X11_of o k μ) (hR : R μ (some (kI (F_X11_of o k μ)))) : V_X11_of R 0 [(0, kR o), (1, kI k)] μ := by
  obtain ⟨rfl, hb, h0, h1⟩ := h
  exact vc_X11_of_0 ⟨by omega, hR⟩
theorem of_4 {μ : Mem} {a : Int} (h0 : 0 ≤ a) (h1 : a < 8) : F_X11_of 201 (10 + a) μ = vm μ 4 a := by
  rw [v4_ μ h0 h1]
  unfold F_X11_of
  rw [show μ 201 12 + (10 + a) = μ 201 12 + 10 + a by omega]
theorem of_5 {μ : Mem} {a : Int} (h0 : 0 ≤ a) (h1 : a < 8) : F_X11_of 201 (20 + a) μ = vm μ 5 a := by
  rw [v5_ μ h0 h1]
  unfold F_X11_of
  rw [show μ 201 12 + (20 + a) = μ 201 12 + 20 + a by omega]
theorem of_6 {μ : Mem} {a : Int} (h0 : 0 ≤ a) (h1 : a < 8) : F_X11_of 201 (30 + a) μ = vm μ 6 a := by
  rw [v6_ μ h0 h1]
  unfold F_X11_of
  rw [show μ 201 12 + (30 + a) = μ 201 12 + 30 + a by omega]
theorem of_7 {μ : Mem} {a : Int} (h0 : 0 ≤ a) (h1 : a < 64) : F_X11_of 201 (40 + a) μ = vm μ 7 a := by
  rw [v7_ μ h0 h1]
  unfold F_X11_of
  rw [show μ 201 12 + (40 + a) = μ 201 12 + 40 + a by omega]
theorem of_7' {μ : Mem} {a b : Int} (h0 : 0 ≤ a) (h1 : a < 8) (b0 : 0 ≤ b) (b1 : b < 8) : F_X11_of 201 (40 + 8 * a + b) μ = vm μ 7 (8 * a + b) := by
  rw [← of_7 (μ := μ) (a := 8 * a + b) (by omega) (by omega), show 40 + 8 * a + b = 40 + (8 * a + b) by omega]
theorem ct_X11_of : Ct mX11_of 0 0 0 0 (nrmS S_X11_of) := by
  refine ct_vm (own := RX11) (by decide +kernel) rfl ?_ ?_
  · intro as μ Q hS
    unfold S_X11_of at hS
    split at hS
    · exact Nat.le_of_ble_eq_true rfl
    · exact hS.elim
  · intro as μ R hS
    unfold S_X11_of at hS
    split at hS
    · exact body_X11_of hS.1 hS.2
    · exact hS.elim
def P_X11_isTown (o n : Int) (μ : Mem) : Prop := o = 201 ∧ SOk (stM μ) ∧ r32 n
def Q_X11_isTown (_ n : Int) (μ μ' : Mem) (r : Int) : Prop := (∀ z : Int, z ≠ 201 → μ' z = μ z) ∧ FldM μ μ' [12, 13] ∧ (¬ (0 ≤ n ∧ n < μ 202 0) → r = 0) ∧ (0 ≤ n ∧ n < μ 202 0 → r = 1 ∧ MB μ' ∧ vm μ' = (stM μ).1.2.2 n ∧ μ' 201 12 = 510 + 260 * n)
def S_X11_isTown : S0t := fun as μ Q => match as with
  | [(2, x0), (0, x1)] => P_X11_isTown x0 x1 μ ∧ ∀ (μ' : Mem) (r : Int), Q_X11_isTown x0 x1 μ μ' r → Q μ' (some (kI r))
  | _ => False
theorem mono_X11_isTown : Mono S_X11_isTown := by
  intro as μ Q Q' h hS
  unfold S_X11_isTown at hS ⊢
  split at hS
  · exact ⟨hS.1, fun μ' r q => h _ _ (hS.2 _ _ q)⟩
  · exact hS.elim
def iX11_isTown : Inf := (kX11_isTown, fTX11, pTX11, cTX11, lTX11, sTX11, [(162, 1, 3, 0, S_X11_isIn)])
theorem ok_X11_isTown : infOK iX11_isTown mX11_isTown RX11 1 22 := ⟨kkX11_isTown, fTX11_ok, pTX11_ok _, cTX11_ok, lTX11_ok, sTX11_ok, c_cons ⟨mX11_isIn, 0, 0, ct_X11_isIn, mmX11_isIn, stX11_isIn, lkX11_162, ⟨by decide, by decide⟩, mono_X11_isIn⟩ (c_nil)⟩
theorem mt_X11_isTown : mtOK [] RX11 1 22 := mt_nil
abbrev V_X11_isTown (R : Mem → Option AV → Prop) (pc : Nat) (lc : List (Nat × AV)) (μ : Mem) : Prop := VM mX11_isTown RX11 1 22 R pc lc [] μ
set_option maxRecDepth 20000 in
theorem vc_X11_isTown_0 {R : Mem → Option AV → Prop} {n : Int} {μ : Mem} (H : P_X11_isIn n 0 ((μ 202 0) - 1) μ ∧ r32 (F_X11_isIn n 0 ((μ 202 0) - 1) μ) ∧ ((¬ (F_X11_isIn n 0 ((μ 202 0) - 1) μ) = 0) → V_X11_isTown R 31 [(0, kR 201)] (updm μ 201 12 (510 + (260 * n)))) ∧ (¬ (¬ (F_X11_isIn n 0 ((μ 202 0) - 1) μ) = 0) → R μ (some (kI 0)))) : V_X11_isTown R 0 [(0, kR 201), (1, kI n)] μ := by
  refine vm_step2 mt_X11_isTown ok_X11_isTown [(31, [0]), (44, [])] 1000 ?_
  show isC 201 11 ∧ inA 202 0 (0 : Int) ∧ P_X11_isIn n 0 ((μ 202 0) - 1) μ ∧ r32 (F_X11_isIn n 0 ((μ 202 0) - 1) μ) ∧ ((¬ (F_X11_isIn n 0 ((μ 202 0) - 1) μ) = 0) → isC 201 11 ∧ 0 = 0 ∧ True ∧ V_X11_isTown R 31 [(0, kR 201)] (updm μ 201 12 (510 + (260 * n)))) ∧ (¬ (¬ (F_X11_isIn n 0 ((μ 202 0) - 1) μ) = 0) → (0 ≤ (0 : Int) ∧ (0 : Int) ≤ 1) ∧ R μ (some (kI 0)))
  exact ⟨c_201, ⟨isArr.in a_202 (by omega) (by omega), ⟨H.1, ⟨H.2.1, fun hc1 => ⟨c_201, rfl, trivial, (H.2.2.1 hc1)⟩, fun hc1 => ⟨⟨by omega, by omega⟩, (H.2.2.2 hc1)⟩⟩⟩⟩⟩
set_option maxRecDepth 20000 in
theorem vc_X11_isTown_31 {R : Mem → Option AV → Prop} {μ : Mem} (H : (0 ≤ (μ 201 12) ∧ (μ 201 12) < 5160) ∧ V_X11_isTown R 44 [] (updm μ 201 13 (μ 202 (μ 201 12)))) : V_X11_isTown R 31 [(0, kR 201)] μ := by
  refine vm_step2 mt_X11_isTown ok_X11_isTown [(31, [0]), (44, [])] 1000 ?_
  show isC 201 11 ∧ isC 201 11 ∧ inA 202 0 (μ 201 12) ∧ isC 201 11 ∧ 0 = 0 ∧ True ∧ V_X11_isTown R 44 [] (updm μ 201 13 (μ 202 (μ 201 12)))
  exact ⟨c_201, ⟨c_201, ⟨isArr.in a_202 H.1.1 H.1.2, ⟨c_201, rfl, trivial, H.2⟩⟩⟩⟩
set_option maxRecDepth 20000 in
theorem vc_X11_isTown_44 {R : Mem → Option AV → Prop} {μ : Mem} (H : R μ (some (kI 1))) : V_X11_isTown R 44 [] μ := by
  refine vm_step2 mt_X11_isTown ok_X11_isTown [(31, [0]), (44, [])] 1000 ?_
  show (0 ≤ (1 : Int) ∧ (1 : Int) ≤ 1) ∧ R μ (some (kI 1))
  exact ⟨⟨by omega, by omega⟩, H⟩
theorem body_X11_isTown {o n : Int} {μ : Mem} {R : Mem → Option AV → Prop} (h : P_X11_isTown o n μ) (hR : ∀ (μ' : Mem) (r : Int), Q_X11_isTown o n μ μ' r → R μ' (some (kI r))) : V_X11_isTown R 0 [(0, kR o), (1, kI n)] μ := by
  obtain ⟨rfl, hs, rn⟩ := h
  have h3 := hs.1.2.1
  rw [mn_3] at h3
  refine vc_X11_isTown_0 ⟨⟨rn, rr (by omega), rr (by omega)⟩, rr (by have := isIn_r (x := n) (lo := 0) (hi := μ 202 0 - 1) (μ := μ); omega), fun c => ?_, fun c => ?_⟩
  · have hn := isIn_1.mp c
    obtain ⟨m1, e1⟩ : ∃ m, m = updm μ 201 12 (510 + 260 * n) := ⟨_, rfl⟩
    rw [← e1]
    have f12 : m1 201 12 = 510 + 260 * n := by rw [e1, ru_eq, r1_eq]
    have f202 : m1 202 = μ 202 := by rw [e1, ru_ne (by omega)]
    refine vc_X11_isTown_31 ⟨by omega, ?_⟩
    obtain ⟨m, e⟩ : ∃ m, m = updm m1 201 13 (m1 202 (m1 201 12)) := ⟨_, rfl⟩
    rw [← e]
    refine vc_X11_isTown_44 (hR m 1 ?_)
    have g12 : m 201 12 = 510 + 260 * n := by rw [e, ru_eq, r1_ne (by omega), f12]
    have g202 : m 202 = μ 202 := by rw [e, ru_ne (by omega), f202]
    have g13 : m 201 13 = μ 202 (510 + 260 * n) := by rw [e, ru_eq, r1_eq, f202, f12]
    have ev : vm m = tmF (μ 202) (510 + 260 * n) := by unfold vm; rw [g12, g202]
    have et := mn_t μ (n := n) (by omega)
    have vok := hs.1.2.2.2.2.2 n (by omega) (by rw [mn_3]; omega)
    refine ⟨fun z hz => by rw [e, ru_ne hz, e1, ru_ne hz], fun f hf => ?_, fun q => absurd (show 0 ≤ n ∧ n < μ 202 0 by omega) q, fun _ => ⟨rfl, ⟨by omega, ?_, ?_⟩, ?_, g12⟩⟩
    · have q1 : f ≠ 12 := fun q => hf (by simp [q])
      have q2 : f ≠ 13 := fun q => hf (by simp [q])
      rw [e, ru_eq, r1_ne q2, e1, ru_eq, r1_ne q1]
    · rw [ev, g13]; rfl
    · rw [ev, ← et]; exact vok
    · rw [ev, et]
  · refine hR μ 0 ⟨fun z _ => rfl, fun f _ => rfl, fun _ => rfl, fun q => absurd (isIn_1.mpr ⟨q.1, by omega⟩) c⟩
theorem ct_X11_isTown : Ct mX11_isTown 1 22 0 0 (nrmS S_X11_isTown) := by
  refine ct_vm (own := RX11) (by decide +kernel) rfl ?_ ?_
  · intro as μ Q hS
    unfold S_X11_isTown at hS
    split at hS
    · exact Nat.le_of_ble_eq_true rfl
    · exact hS.elim
  · intro as μ R hS
    unfold S_X11_isTown at hS
    split at hS
    · exact body_X11_isTown hS.1 hS.2
    · exact hS.elim
def P_X11_isPlace (o a : Int) (μ : Mem) : Prop := o = 201 ∧ MB μ ∧ r32 a
def F_X11_isPlace (_ a : Int) (μ : Mem) : Int := if 0 ≤ a ∧ a < vm μ 0 0 then 1 else 0
def S_X11_isPlace : S0t := fun as μ Q => match as with
  | [(2, x0), (0, x1)] => P_X11_isPlace x0 x1 μ ∧ Q μ (some (kI (F_X11_isPlace x0 x1 μ)))
  | _ => False
theorem mono_X11_isPlace : Mono S_X11_isPlace := by
  intro as μ Q Q' h hS
  unfold S_X11_isPlace at hS ⊢
  split at hS
  · exact ⟨hS.1, h _ _ hS.2⟩
  · exact hS.elim
def iX11_isPlace : Inf := (kX11_isPlace, fTX11, pTX11, cTX11, lTX11, sTX11, [(162, 1, 3, 0, S_X11_isIn)])
theorem ok_X11_isPlace : infOK iX11_isPlace mX11_isPlace RX11 1 22 := ⟨kkX11_isPlace, fTX11_ok, pTX11_ok _, cTX11_ok, lTX11_ok, sTX11_ok, c_cons ⟨mX11_isIn, 0, 0, ct_X11_isIn, mmX11_isIn, stX11_isIn, lkX11_162, ⟨by decide, by decide⟩, mono_X11_isIn⟩ (c_nil)⟩
theorem mt_X11_isPlace : mtOK [] RX11 1 22 := mt_nil
abbrev V_X11_isPlace (R : Mem → Option AV → Prop) (pc : Nat) (lc : List (Nat × AV)) (μ : Mem) : Prop := VM mX11_isPlace RX11 1 22 R pc lc [] μ
set_option maxRecDepth 20000 in
theorem vc_X11_isPlace_0 {R : Mem → Option AV → Prop} {a : Int} {μ : Mem} (H : P_X11_isIn a 0 ((μ 201 13) - 1) μ ∧ (0 ≤ (F_X11_isIn a 0 ((μ 201 13) - 1) μ) ∧ (F_X11_isIn a 0 ((μ 201 13) - 1) μ) ≤ 1) ∧ R μ (some (kI (F_X11_isIn a 0 ((μ 201 13) - 1) μ)))) : V_X11_isPlace R 0 [(0, kR 201), (1, kI a)] μ := by
  refine vm_step2 mt_X11_isPlace ok_X11_isPlace [] 1000 ?_
  show isC 201 11 ∧ P_X11_isIn a 0 ((μ 201 13) - 1) μ ∧ (0 ≤ (F_X11_isIn a 0 ((μ 201 13) - 1) μ) ∧ (F_X11_isIn a 0 ((μ 201 13) - 1) μ) ≤ 1) ∧ R μ (some (kI (F_X11_isIn a 0 ((μ 201 13) - 1) μ)))
  exact ⟨c_201, ⟨H.1, H.2⟩⟩
theorem MB.p {μ : Mem} (h : MB μ) : 2 ≤ μ 201 13 ∧ μ 201 13 ≤ 8 := by rw [h.2.1]; exact h.2.2.1.1
theorem body_X11_isPlace {o a : Int} {μ : Mem} {R : Mem → Option AV → Prop} (h : P_X11_isPlace o a μ) (hR : R μ (some (kI (F_X11_isPlace o a μ)))) : V_X11_isPlace R 0 [(0, kR o), (1, kI a)] μ := by
  obtain ⟨rfl, hb, ra⟩ := h
  have hp := hb.p
  refine vc_X11_isPlace_0 ⟨⟨ra, rr (by omega), rr (by omega)⟩, isIn_r, r_eq hR ?_⟩
  unfold F_X11_isPlace F_X11_isIn
  rw [← hb.2.1]
  by_cases c : 0 ≤ a ∧ a < μ 201 13
  · rw [if_pos c, if_pos (by omega)]
  · rw [if_neg c, if_neg (by omega)]
theorem isPlace_r {o a : Int} {μ : Mem} : 0 ≤ F_X11_isPlace o a μ ∧ F_X11_isPlace o a μ ≤ 1 := by
  unfold F_X11_isPlace
  split <;> omega
theorem isPlace_1 {o a : Int} {μ : Mem} : ¬ F_X11_isPlace o a μ = 0 ↔ 0 ≤ a ∧ a < vm μ 0 0 := by
  unfold F_X11_isPlace
  split <;> omega
theorem ct_X11_isPlace : Ct mX11_isPlace 1 22 0 0 (nrmS S_X11_isPlace) := by
  refine ct_vm (own := RX11) (by decide +kernel) rfl ?_ ?_
  · intro as μ Q hS
    unfold S_X11_isPlace at hS
    split at hS
    · exact Nat.le_of_ble_eq_true rfl
    · exact hS.elim
  · intro as μ R hS
    unfold S_X11_isPlace at hS
    split at hS
    · exact body_X11_isPlace hS.1 hS.2
    · exact hS.elim
def P_X11_walkAt (o _ : Int) (_ : Mem) : Prop := o = 201
def F_X11_walkAt (_ k : Int) (μ : Mem) : Int := μ 201 12 + 104 + 18 * k
def S_X11_walkAt : S0t := fun as μ Q => match as with
  | [(2, x0), (0, x1)] => P_X11_walkAt x0 x1 μ ∧ Q μ (some (kI (F_X11_walkAt x0 x1 μ)))
  | _ => False
theorem mono_X11_walkAt : Mono S_X11_walkAt := by
  intro as μ Q Q' h hS
  unfold S_X11_walkAt at hS ⊢
  split at hS
  · exact ⟨hS.1, h _ _ hS.2⟩
  · exact hS.elim
def iX11_walkAt : Inf := (kX11_walkAt, fTX11, pTX11, cTX11, lTX11, sTX11, [])
theorem ok_X11_walkAt : infOK iX11_walkAt mX11_walkAt RX11 0 0 := ⟨kkX11_walkAt, fTX11_ok, pTX11_ok _, cTX11_ok, lTX11_ok, sTX11_ok, c_nil⟩
theorem mt_X11_walkAt : mtOK [] RX11 0 0 := mt_nil
abbrev V_X11_walkAt (R : Mem → Option AV → Prop) (pc : Nat) (lc : List (Nat × AV)) (μ : Mem) : Prop := VM mX11_walkAt RX11 0 0 R pc lc [] μ
set_option maxRecDepth 20000 in
theorem vc_X11_walkAt_0 {R : Mem → Option AV → Prop} {k : Int} {μ : Mem} (H : R μ (some (kI (((μ 201 12) + 104) + (18 * k))))) : V_X11_walkAt R 0 [(0, kR 201), (1, kI k)] μ := by
  refine vm_step2 mt_X11_walkAt ok_X11_walkAt [] 1000 ?_
  show isC 201 11 ∧ R μ (some (kI (((μ 201 12) + 104) + (18 * k))))
  exact ⟨c_201, H⟩
theorem body_X11_walkAt {o k : Int} {μ : Mem} {R : Mem → Option AV → Prop} (h : P_X11_walkAt o k μ) (hR : R μ (some (kI (F_X11_walkAt o k μ)))) : V_X11_walkAt R 0 [(0, kR o), (1, kI k)] μ := by
  have h : o = 201 := h
  subst h
  exact vc_X11_walkAt_0 hR
theorem ct_X11_walkAt : Ct mX11_walkAt 0 0 0 0 (nrmS S_X11_walkAt) := by
  refine ct_vm (own := RX11) (by decide +kernel) rfl ?_ ?_
  · intro as μ Q hS
    unfold S_X11_walkAt at hS
    split at hS
    · exact Nat.le_of_ble_eq_true rfl
    · exact hS.elim
  · intro as μ R hS
    unfold S_X11_walkAt at hS
    split at hS
    · exact body_X11_walkAt hS.1 hS.2
    · exact hS.elim
def P_X11_isWalk (o n k : Int) (μ : Mem) : Prop := o = 201 ∧ SOk (stM μ) ∧ r32 n ∧ r32 k
def Q_X11_isWalk (_ n k : Int) (μ μ' : Mem) (r : Int) : Prop := (∀ z : Int, z ≠ 201 → μ' z = μ z) ∧ FldM μ μ' [12, 13] ∧ (¬ ((0 ≤ n ∧ n < μ 202 0) ∧ 0 ≤ k ∧ k < (stM μ).1.2.2 n 8 0) → r = 0) ∧ ((0 ≤ n ∧ n < μ 202 0) ∧ 0 ≤ k ∧ k < (stM μ).1.2.2 n 8 0 → r = 1 ∧ MB μ' ∧ vm μ' = (stM μ).1.2.2 n ∧ μ' 201 12 = 510 + 260 * n)
def S_X11_isWalk : S0t := fun as μ Q => match as with
  | [(2, x0), (0, x1), (0, x2)] => P_X11_isWalk x0 x1 x2 μ ∧ ∀ (μ' : Mem) (r : Int), Q_X11_isWalk x0 x1 x2 μ μ' r → Q μ' (some (kI r))
  | _ => False
theorem mono_X11_isWalk : Mono S_X11_isWalk := by
  intro as μ Q Q' h hS
  unfold S_X11_isWalk at hS ⊢
  split at hS
  · exact ⟨hS.1, fun μ' r q => h _ _ (hS.2 _ _ q)⟩
  · exact hS.elim
def iX11_isWalk : Inf := (kX11_isWalk, fTX11, pTX11, cTX11, lTX11, sTX11, [(219, 0, 1, 11, S_X11_isTown), (209, 0, 1, 11, S_X11_of), (162, 1, 3, 0, S_X11_isIn)])
theorem ok_X11_isWalk : infOK iX11_isWalk mX11_isWalk RX11 2 43 := ⟨kkX11_isWalk, fTX11_ok, pTX11_ok _, cTX11_ok, lTX11_ok, sTX11_ok, c_cons ⟨mX11_isTown, 1, 22, ct_X11_isTown, mmX11_isTown, vvX11_isTown, lkX11_219, ⟨by decide, by decide⟩, ⟨_, _, rfl⟩, by decide, mono_X11_isTown⟩ (c_cons ⟨mX11_of, 0, 0, ct_X11_of, mmX11_of, vvX11_of, lkX11_209, ⟨by decide, by decide⟩, ⟨_, _, rfl⟩, by decide, mono_X11_of⟩ (c_cons ⟨mX11_isIn, 0, 0, ct_X11_isIn, mmX11_isIn, stX11_isIn, lkX11_162, ⟨by decide, by decide⟩, mono_X11_isIn⟩ (c_nil)))⟩
theorem mt_X11_isWalk : mtOK [] RX11 2 43 := mt_nil
abbrev V_X11_isWalk (R : Mem → Option AV → Prop) (pc : Nat) (lc : List (Nat × AV)) (μ : Mem) : Prop := VM mX11_isWalk RX11 2 43 R pc lc [] μ
set_option maxRecDepth 20000 in
theorem vc_X11_isWalk_0 {R : Mem → Option AV → Prop} {n k : Int} {μ : Mem} (H : P_X11_isTown 201 n μ ∧ (∀ (μ1 : Mem) (rv2 : Int), Q_X11_isTown 201 n μ μ1 rv2 → r32 rv2 ∧ ((rv2 = 0) → R μ1 (some (kI 0))) ∧ (¬ (rv2 = 0) → P_X11_of 201 4 μ1 ∧ P_X11_isIn k 0 ((F_X11_of 201 4 μ1) - 1) μ1 ∧ r32 (F_X11_isIn k 0 ((F_X11_of 201 4 μ1) - 1) μ1) ∧ (((F_X11_isIn k 0 ((F_X11_of 201 4 μ1) - 1) μ1) = 0) → R μ1 (some (kI 0))) ∧ (¬ ((F_X11_isIn k 0 ((F_X11_of 201 4 μ1) - 1) μ1) = 0) → R μ1 (some (kI 1)))))) : V_X11_isWalk R 0 [(0, kR 201), (1, kI n), (2, kI k)] μ := by
  refine vm_step2 mt_X11_isWalk ok_X11_isWalk [] 1000 ?_
  show isC 201 11 ∧ P_X11_isTown 201 n μ ∧ (∀ (μ1 : Mem) (rv2 : Int), Q_X11_isTown 201 n μ μ1 rv2 → r32 rv2 ∧ ((rv2 = 0) → (0 ≤ (0 : Int) ∧ (0 : Int) ≤ 1) ∧ R μ1 (some (kI 0))) ∧ (¬ (rv2 = 0) → isC 201 11 ∧ P_X11_of 201 4 μ1 ∧ P_X11_isIn k 0 ((F_X11_of 201 4 μ1) - 1) μ1 ∧ r32 (F_X11_isIn k 0 ((F_X11_of 201 4 μ1) - 1) μ1) ∧ (((F_X11_isIn k 0 ((F_X11_of 201 4 μ1) - 1) μ1) = 0) → (0 ≤ (0 : Int) ∧ (0 : Int) ≤ 1) ∧ R μ1 (some (kI 0))) ∧ (¬ ((F_X11_isIn k 0 ((F_X11_of 201 4 μ1) - 1) μ1) = 0) → (0 ≤ (1 : Int) ∧ (1 : Int) ≤ 1) ∧ R μ1 (some (kI 1)))))
  exact ⟨c_201, H.1, fun μ1 rv2 hq3 => ⟨(H.2 μ1 rv2 hq3).1, fun hc5 => ⟨⟨by omega, by omega⟩, ((H.2 μ1 rv2 hq3).2.1 hc5)⟩, fun hc5 => ⟨c_201, ((H.2 μ1 rv2 hq3).2.2 hc5).1, ⟨((H.2 μ1 rv2 hq3).2.2 hc5).2.1, ⟨((H.2 μ1 rv2 hq3).2.2 hc5).2.2.1, fun hc4 => ⟨⟨by omega, by omega⟩, (((H.2 μ1 rv2 hq3).2.2 hc5).2.2.2.1 hc4)⟩, fun hc4 => ⟨⟨by omega, by omega⟩, (((H.2 μ1 rv2 hq3).2.2 hc5).2.2.2.2 hc4)⟩⟩⟩⟩⟩⟩
theorem body_X11_isWalk {o n k : Int} {μ : Mem} {R : Mem → Option AV → Prop} (h : P_X11_isWalk o n k μ) (hR : ∀ (μ' : Mem) (r : Int), Q_X11_isWalk o n k μ μ' r → R μ' (some (kI r))) : V_X11_isWalk R 0 [(0, kR o), (1, kI n), (2, kI k)] μ := by
  obtain ⟨rfl, hs, rn, rk⟩ := h
  refine vc_X11_isWalk_0 ⟨⟨rfl, hs, rn⟩, fun m rv q => ?_⟩
  obtain ⟨q1, q2, q3, q4⟩ := q
  by_cases c : 0 ≤ n ∧ n < μ 202 0
  · obtain ⟨rfl, hb, hv, h12⟩ := q4 c
    have h8 := hb.2.2.1.2.2.2.2.2.2.2.1
    have e8 : F_X11_of 201 4 m = vm m 8 0 := rfl
    refine ⟨rr (by omega), fun q => absurd q (by omega), fun _ => ⟨⟨rfl, hb.1, by omega, by omega⟩, ⟨rk, rr (by omega), by rw [e8]; exact rr (by omega)⟩, rr (by have := isIn_r (x := k) (lo := 0) (hi := F_X11_of 201 4 m - 1) (μ := m); omega), fun d => ?_, fun d => ?_⟩⟩
    · refine hR m 0 ⟨q1, q2, fun _ => rfl, fun e => absurd (isIn_1.mpr ⟨e.2.1, ?_⟩) (not_not_intro d)⟩
      have := e.2.2
      rw [e8, hv]; omega
    · have d2 := isIn_1.mp d
      rw [e8, hv] at d2
      exact hR m 1 ⟨q1, q2, fun e => absurd ⟨c, d2.1, by omega⟩ e, fun _ => ⟨rfl, hb, hv, h12⟩⟩
  · have e := q3 c
    subst e
    exact ⟨rr (by omega), fun _ => hR m 0 ⟨q1, q2, fun _ => rfl, fun e => absurd e.1 c⟩, fun q => absurd rfl q⟩
theorem ct_X11_isWalk : Ct mX11_isWalk 2 43 0 0 (nrmS S_X11_isWalk) := by
  refine ct_vm (own := RX11) (by decide +kernel) rfl ?_ ?_
  · intro as μ Q hS
    unfold S_X11_isWalk at hS
    split at hS
    · exact Nat.le_of_ble_eq_true rfl
    · exact hS.elim
  · intro as μ R hS
    unfold S_X11_isWalk at hS
    split at hS
    · exact body_X11_isWalk hS.1 hS.2
    · exact hS.elim
def P_X11_fault (o k : Int) (μ : Mem) : Prop := o = 201 ∧ SOk (stM μ) ∧ r32 k
def Q_X11_fault (_ k : Int) (μ μ' : Mem) (r : Int) : Prop := AskM μ μ' ∧ r = faultA (stM μ).1 k
def S_X11_fault : S0t := fun as μ Q => match as with
  | [(2, x0), (0, x1)] => P_X11_fault x0 x1 μ ∧ ∀ (μ' : Mem) (r : Int), Q_X11_fault x0 x1 μ μ' r → Q μ' (some (kI r))
  | _ => False
theorem mono_X11_fault : Mono S_X11_fault := by
  intro as μ Q Q' h hS
  unfold S_X11_fault at hS ⊢
  split at hS
  · exact ⟨hS.1, fun μ' r q => h _ _ (hS.2 _ _ q)⟩
  · exact hS.elim
def iX11_fault : Inf := (kX11_fault, fTX11, pTX11, cTX11, lTX11, sTX11, [])
theorem ok_X11_fault : infOK iX11_fault mX11_fault RX11 0 0 := ⟨kkX11_fault, fTX11_ok, pTX11_ok _, cTX11_ok, lTX11_ok, sTX11_ok, c_nil⟩
theorem mt_X11_fault : mtOK [] RX11 0 0 := mt_nil
abbrev V_X11_fault (R : Mem → Option AV → Prop) (pc : Nat) (lc : List (Nat × AV)) (μ : Mem) : Prop := VM mX11_fault RX11 0 0 R pc lc [] μ
set_option maxRecDepth 20000 in
theorem vc_X11_fault_0 {R : Mem → Option AV → Prop} {k : Int} {μ : Mem} (H : r32 k ∧ ((¬ k = 0) → r32 k ∧ ((¬ k = (1 : Int)) → R μ (some (kI (-1)))) ∧ (¬ (¬ k = (1 : Int)) → R μ (some (kI (μ 202 4))))) ∧ (¬ (¬ k = 0) → R μ (some (kI (μ 202 3))))) : V_X11_fault R 0 [(0, kR 201), (1, kI k)] μ := by
  refine vm_step2 mt_X11_fault ok_X11_fault [] 1000 ?_
  show r32 k ∧ ((¬ k = 0) → (r32 k ∧ r32 (1 : Int)) ∧ ((¬ k = (1 : Int)) → R μ (some (kI (-1)))) ∧ (¬ (¬ k = (1 : Int)) → isC 201 11 ∧ inA 202 0 (4 : Int) ∧ R μ (some (kI (μ 202 4))))) ∧ (¬ (¬ k = 0) → isC 201 11 ∧ inA 202 0 (3 : Int) ∧ R μ (some (kI (μ 202 3))))
  exact ⟨H.1, fun hc2 => ⟨⟨(H.2.1 hc2).1, by unfold r32; omega⟩, fun hc1 => ((H.2.1 hc2).2.1 hc1), fun hc1 => ⟨c_201, ⟨isArr.in a_202 (by omega) (by omega), ((H.2.1 hc2).2.2 hc1)⟩⟩⟩, fun hc2 => ⟨c_201, ⟨isArr.in a_202 (by omega) (by omega), (H.2.2 hc2)⟩⟩⟩
theorem body_X11_fault {o k : Int} {μ : Mem} {R : Mem → Option AV → Prop} (h : P_X11_fault o k μ) (hR : ∀ (μ' : Mem) (r : Int), Q_X11_fault o k μ μ' r → R μ' (some (kI r))) : V_X11_fault R 0 [(0, kR o), (1, kI k)] μ := by
  obtain ⟨rfl, hs, rk⟩ := h
  have fin : ∀ x : Int, x = faultA (stM μ).1 k → R μ (some (kI x)) := fun x hx => hR μ x ⟨AskM_0 μ, hx⟩
  unfold faultA at fin
  rw [mn_1, mn_2] at fin
  refine vc_X11_fault_0 ⟨rk, fun c0 => ⟨rk, fun c1 => fin _ ?_, fun c1 => fin _ ?_⟩, fun c0 => fin _ ?_⟩
  · rw [if_neg c0, if_neg c1]
  · rw [if_neg c0, if_pos (Classical.byContradiction c1)]
  · rw [if_pos (Classical.byContradiction c0)]
theorem ct_X11_fault : Ct mX11_fault 0 0 0 0 (nrmS S_X11_fault) := by
  refine ct_vm (own := RX11) (by decide +kernel) rfl ?_ ?_
  · intro as μ Q hS
    unfold S_X11_fault at hS
    split at hS
    · exact Nat.le_of_ble_eq_true rfl
    · exact hS.elim
  · intro as μ R hS
    unfold S_X11_fault at hS
    split at hS
    · exact body_X11_fault hS.1 hS.2
    · exact hS.elim
def P_X11_count (o k : Int) (μ : Mem) : Prop := o = 201 ∧ SOk (stM μ) ∧ r32 k
def Q_X11_count (_ k : Int) (μ μ' : Mem) (r : Int) : Prop := AskM μ μ' ∧ r = countA (stM μ).1 k
def S_X11_count : S0t := fun as μ Q => match as with
  | [(2, x0), (0, x1)] => P_X11_count x0 x1 μ ∧ ∀ (μ' : Mem) (r : Int), Q_X11_count x0 x1 μ μ' r → Q μ' (some (kI r))
  | _ => False
theorem mono_X11_count : Mono S_X11_count := by
  intro as μ Q Q' h hS
  unfold S_X11_count at hS ⊢
  split at hS
  · exact ⟨hS.1, fun μ' r q => h _ _ (hS.2 _ _ q)⟩
  · exact hS.elim
def iX11_count : Inf := (kX11_count, fTX11, pTX11, cTX11, lTX11, sTX11, [])
theorem ok_X11_count : infOK iX11_count mX11_count RX11 0 0 := ⟨kkX11_count, fTX11_ok, pTX11_ok _, cTX11_ok, lTX11_ok, sTX11_ok, c_nil⟩
theorem mt_X11_count : mtOK [] RX11 0 0 := mt_nil
abbrev V_X11_count (R : Mem → Option AV → Prop) (pc : Nat) (lc : List (Nat × AV)) (μ : Mem) : Prop := VM mX11_count RX11 0 0 R pc lc [] μ
set_option maxRecDepth 20000 in
theorem vc_X11_count_0 {R : Mem → Option AV → Prop} {k : Int} {μ : Mem} (H : r32 k ∧ ((¬ k = 0) → r32 k ∧ ((¬ k = (1 : Int)) → R μ (some (kI (-2)))) ∧ (¬ (¬ k = (1 : Int)) → R μ (some (kI (μ 202 1))))) ∧ (¬ (¬ k = 0) → R μ (some (kI (μ 202 0))))) : V_X11_count R 0 [(0, kR 201), (1, kI k)] μ := by
  refine vm_step2 mt_X11_count ok_X11_count [] 1000 ?_
  show r32 k ∧ ((¬ k = 0) → (r32 k ∧ r32 (1 : Int)) ∧ ((¬ k = (1 : Int)) → R μ (some (kI (-2)))) ∧ (¬ (¬ k = (1 : Int)) → isC 201 11 ∧ inA 202 0 (1 : Int) ∧ R μ (some (kI (μ 202 1))))) ∧ (¬ (¬ k = 0) → isC 201 11 ∧ inA 202 0 (0 : Int) ∧ R μ (some (kI (μ 202 0))))
  exact ⟨H.1, fun hc2 => ⟨⟨(H.2.1 hc2).1, by unfold r32; omega⟩, fun hc1 => ((H.2.1 hc2).2.1 hc1), fun hc1 => ⟨c_201, ⟨isArr.in a_202 (by omega) (by omega), ((H.2.1 hc2).2.2 hc1)⟩⟩⟩, fun hc2 => ⟨c_201, ⟨isArr.in a_202 (by omega) (by omega), (H.2.2 hc2)⟩⟩⟩
theorem body_X11_count {o k : Int} {μ : Mem} {R : Mem → Option AV → Prop} (h : P_X11_count o k μ) (hR : ∀ (μ' : Mem) (r : Int), Q_X11_count o k μ μ' r → R μ' (some (kI r))) : V_X11_count R 0 [(0, kR o), (1, kI k)] μ := by
  obtain ⟨rfl, hs, rk⟩ := h
  have fin : ∀ x : Int, x = countA (stM μ).1 k → R μ (some (kI x)) := fun x hx => hR μ x ⟨AskM_0 μ, hx⟩
  unfold countA at fin
  rw [mn_3, mn_4] at fin
  refine vc_X11_count_0 ⟨rk, fun c0 => ⟨rk, fun c1 => fin _ ?_, fun c1 => fin _ ?_⟩, fun c0 => fin _ ?_⟩
  · rw [if_neg c0, if_neg c1]
  · rw [if_neg c0, if_pos (Classical.byContradiction c1)]
  · rw [if_pos (Classical.byContradiction c0)]
theorem ct_X11_count : Ct mX11_count 0 0 0 0 (nrmS S_X11_count) := by
  refine ct_vm (own := RX11) (by decide +kernel) rfl ?_ ?_
  · intro as μ Q hS
    unfold S_X11_count at hS
    split at hS
    · exact Nat.le_of_ble_eq_true rfl
    · exact hS.elim
  · intro as μ R hS
    unfold S_X11_count at hS
    split at hS
    · exact body_X11_count hS.1 hS.2
    · exact hS.elim
def P_X11_ran (o k : Int) (μ : Mem) : Prop := o = 201 ∧ SOk (stM μ) ∧ r32 k
def Q_X11_ran (_ k : Int) (μ μ' : Mem) (r : Int) : Prop := AskM μ μ' ∧ r = ranA (stM μ).1 k
def S_X11_ran : S0t := fun as μ Q => match as with
  | [(2, x0), (0, x1)] => P_X11_ran x0 x1 μ ∧ ∀ (μ' : Mem) (r : Int), Q_X11_ran x0 x1 μ μ' r → Q μ' (some (kI r))
  | _ => False
theorem mono_X11_ran : Mono S_X11_ran := by
  intro as μ Q Q' h hS
  unfold S_X11_ran at hS ⊢
  split at hS
  · exact ⟨hS.1, fun μ' r q => h _ _ (hS.2 _ _ q)⟩
  · exact hS.elim
def iX11_ran : Inf := (kX11_ran, fTX11, pTX11, cTX11, lTX11, sTX11, [(162, 1, 3, 0, S_X11_isIn)])
theorem ok_X11_ran : infOK iX11_ran mX11_ran RX11 1 22 := ⟨kkX11_ran, fTX11_ok, pTX11_ok _, cTX11_ok, lTX11_ok, sTX11_ok, c_cons ⟨mX11_isIn, 0, 0, ct_X11_isIn, mmX11_isIn, stX11_isIn, lkX11_162, ⟨by decide, by decide⟩, mono_X11_isIn⟩ (c_nil)⟩
theorem mt_X11_ran : mtOK [] RX11 1 22 := mt_nil
abbrev V_X11_ran (R : Mem → Option AV → Prop) (pc : Nat) (lc : List (Nat × AV)) (μ : Mem) : Prop := VM mX11_ran RX11 1 22 R pc lc [] μ
set_option maxRecDepth 20000 in
theorem vc_X11_ran_0 {R : Mem → Option AV → Prop} {k : Int} {μ : Mem} (H : r32 (μ 202 1) ∧ (((μ 202 1) ≤ 0) → R μ (some (kI (-1)))) ∧ (¬ ((μ 202 1) ≤ 0) → P_X11_isIn k 0 3 μ ∧ r32 (F_X11_isIn k 0 3 μ) ∧ (((F_X11_isIn k 0 3 μ) = 0) → R μ (some (kI (-1)))) ∧ (¬ ((F_X11_isIn k 0 3 μ) = 0) → (0 ≤ (5 + k) ∧ (5 + k) < 5160) ∧ R μ (some (kI (μ 202 (5 + k))))))) : V_X11_ran R 0 [(0, kR 201), (1, kI k)] μ := by
  refine vm_step2 mt_X11_ran ok_X11_ran [] 1000 ?_
  show isC 201 11 ∧ inA 202 0 (1 : Int) ∧ r32 (μ 202 1) ∧ (((μ 202 1) ≤ 0) → R μ (some (kI (-1)))) ∧ (¬ ((μ 202 1) ≤ 0) → P_X11_isIn k 0 3 μ ∧ r32 (F_X11_isIn k 0 3 μ) ∧ (((F_X11_isIn k 0 3 μ) = 0) → R μ (some (kI (-1)))) ∧ (¬ ((F_X11_isIn k 0 3 μ) = 0) → isC 201 11 ∧ inA 202 0 (5 + k) ∧ R μ (some (kI (μ 202 (5 + k))))))
  exact ⟨c_201, ⟨isArr.in a_202 (by omega) (by omega), ⟨H.1, fun hc2 => (H.2.1 hc2), fun hc2 => ⟨(H.2.2 hc2).1, ⟨(H.2.2 hc2).2.1, fun hc1 => ((H.2.2 hc2).2.2.1 hc1), fun hc1 => ⟨c_201, ⟨isArr.in a_202 ((H.2.2 hc2).2.2.2 hc1).1.1 ((H.2.2 hc2).2.2.2 hc1).1.2, ((H.2.2 hc2).2.2.2 hc1).2⟩⟩⟩⟩⟩⟩⟩
theorem body_X11_ran {o k : Int} {μ : Mem} {R : Mem → Option AV → Prop} (h : P_X11_ran o k μ) (hR : ∀ (μ' : Mem) (r : Int), Q_X11_ran o k μ μ' r → R μ' (some (kI r))) : V_X11_ran R 0 [(0, kR o), (1, kI k)] μ := by
  obtain ⟨rfl, hs, rk⟩ := h
  have fin : ∀ x : Int, x = ranA (stM μ).1 k → R μ (some (kI x)) := fun x hx => hR μ x ⟨AskM_0 μ, hx⟩
  have h4 := hs.1.2.2.1
  unfold ranA at fin
  rw [mn_4] at fin h4
  rw [mn_5 μ (k := 5) (by omega) (by omega), mn_5 μ (k := 6) (by omega) (by omega), mn_5 μ (k := 7) (by omega) (by omega), mn_5 μ (k := 8) (by omega) (by omega)] at fin
  have ir := isIn_r (x := k) (lo := 0) (hi := 3) (μ := μ)
  refine vc_X11_ran_0 ⟨rr (by omega), fun c => fin _ (if_pos (by omega)).symm, fun c => ⟨⟨rk, rr (by omega), rr (by omega)⟩, rr (by omega), fun d => fin _ ?_, fun d => ⟨?_, fin _ ?_⟩⟩⟩
  · have : ¬ (0 ≤ k ∧ k ≤ 3) := fun q => (isIn_1.mpr q) d
    rw [if_neg (by omega), if_neg (by omega), if_neg (by omega), if_neg (by omega), if_neg (by omega)]
  · have := isIn_1.mp d
    omega
  · have := isIn_1.mp d
    rw [if_neg (by omega)]
    rcases (by omega : k = 0 ∨ k = 1 ∨ k = 2 ∨ k = 3) with e | e | e | e <;> subst e <;> rfl
theorem ct_X11_ran : Ct mX11_ran 1 22 0 0 (nrmS S_X11_ran) := by
  refine ct_vm (own := RX11) (by decide +kernel) rfl ?_ ?_
  · intro as μ Q hS
    unfold S_X11_ran at hS
    split at hS
    · exact Nat.le_of_ble_eq_true rfl
    · exact hS.elim
  · intro as μ R hS
    unfold S_X11_ran at hS
    split at hS
    · exact body_X11_ran hS.1 hS.2
    · exact hS.elim
