/-- the kernel at hand -/
def KB (μ : Mem) : Prop := (1 ≤ μ 201 22 ∧ μ 201 22 ≤ μ 201 14 ∧ μ 201 14 ≤ 4) ∧ (μ 201 14 ≤ μ 201 19 ∧ μ 201 19 ≤ 24) ∧ (∀ c r : Int, 0 ≤ c → c < μ 201 14 → 0 ≤ r → r < μ 201 19 → 1 ≤ Fk μ c r ∧ Fk μ c r ≤ 560) ∧ Pk (μ 201 22) (μ 201 14) (μ 211) ∧ Pk (μ 201 22) (μ 201 19) (μ 212)
def AtM (μ : Mem) (i j : Int) : Int := Fk μ (μ 211 i) (μ 212 j)
theorem KB.c {μ : Mem} (h : KB μ) {i : Int} (i0 : 0 ≤ i) (i1 : i < μ 201 22) : 0 ≤ μ 211 i ∧ μ 211 i < μ 201 14 := by
  have := Pk_at h.2.2.2.1 (by have := h.1; omega) i0 i1
  omega
theorem KB.r {μ : Mem} (h : KB μ) {i : Int} (i0 : 0 ≤ i) (i1 : i < μ 201 22) : 0 ≤ μ 212 i ∧ μ 212 i < μ 201 19 := by
  have := Pk_at h.2.2.2.2 (by have := h.1; omega) i0 i1
  omega
theorem KB.a {μ : Mem} (h : KB μ) {i j : Int} (i0 : 0 ≤ i) (i1 : i < μ 201 22) (j0 : 0 ≤ j) (j1 : j < μ 201 22) : 1 ≤ AtM μ i j ∧ AtM μ i j ≤ 560 := by
  have c := h.c i0 i1
  have r := h.r j0 j1
  exact h.2.2.1 _ _ c.1 c.2 r.1 r.2
def mdV (n : Int) (B : Int → Int → Int) : Int := if n = 0 then 1 else if n = 1 then B 0 0 else if n = 2 then B 0 0 * B 1 1 - B 0 1 * B 1 0 else B 0 0 * (B 1 1 * B 2 2 - B 1 2 * B 2 1) - B 0 1 * (B 1 0 * B 2 2 - B 1 2 * B 2 0) + B 0 2 * (B 1 0 * B 2 1 - B 1 1 * B 2 0)
def lowF (s : Int) : Int := if hasB s 0 = true then 0 else if hasB s 1 = true then 1 else if hasB s 2 = true then 2 else if hasB s 3 = true then 3 else 4
def msk (k i : Int) : Int := band (bshl 1 k - 1) (bxor (bshl 1 i) (-1))
def lw2 (s : Int) : Int := band s (s - 1)
def mskB (k i : Int) : Bool := decide (0 ≤ msk k i) && decide (msk k i < 16) && (decide (k ≤ 1) || decide (lowF (msk k i) = ski i 0)) && (decide (k ≤ 2) || decide (lowF (lw2 (msk k i)) = ski i 1)) && (decide (k ≤ 3) || decide (lowF (band (lw2 (msk k i)) (lw2 (msk k i) - 1)) = ski i 2)) && decide (0 ≤ lw2 (msk k i)) && decide (lw2 (msk k i) < 16) && decide (0 ≤ band (lw2 (msk k i)) (lw2 (msk k i) - 1)) && decide (band (lw2 (msk k i)) (lw2 (msk k i) - 1) < 16)
theorem msk_tab : ((List.range 5).all fun k => (List.range k).all fun i => mskB k i) = true := by decide +kernel
theorem msk_at {k i : Int} (k4 : k ≤ 4) (i0 : 0 ≤ i) (i1 : i < k) : (0 ≤ msk k i ∧ msk k i < 16) ∧ (1 < k → lowF (msk k i) = ski i 0) ∧ (2 < k → lowF (lw2 (msk k i)) = ski i 1) ∧ (3 < k → lowF (band (lw2 (msk k i)) (lw2 (msk k i) - 1)) = ski i 2) ∧ (0 ≤ lw2 (msk k i) ∧ lw2 (msk k i) < 16) ∧ 0 ≤ band (lw2 (msk k i)) (lw2 (msk k i) - 1) ∧ band (lw2 (msk k i)) (lw2 (msk k i) - 1) < 16 := by
  have h := List.all_eq_true.mp msk_tab k.toNat (List.mem_range.mpr (by omega))
  have h := List.all_eq_true.mp h i.toNat (List.mem_range.mpr (by omega))
  rw [Int.toNat_of_nonneg (show 0 ≤ k by omega), Int.toNat_of_nonneg i0] at h
  unfold mskB at h
  simp only [Bool.and_eq_true, Bool.or_eq_true, decide_eq_true_eq] at h
  obtain ⟨⟨⟨⟨⟨⟨⟨⟨h1, h2⟩, h3⟩, h4⟩, h5⟩, h6⟩, h7⟩, h8⟩, h9⟩ := h
  refine ⟨⟨h1, h2⟩, fun q => ?_, fun q => ?_, fun q => ?_, ⟨h6, h7⟩, h8, h9⟩
  · rcases h3 with h | h
    · omega
    · exact h
  · rcases h4 with h | h
    · omega
    · exact h
  · rcases h5 with h | h
    · omega
    · exact h
def cofM (A : Int → Int → Int) (k i j : Int) : Int := (if (i + j) % 2 = 0 then 1 else -1) * mdV (k - 1) (fun a b => A (ski i a) (ski j b))
def P_X11_at (o i j : Int) (μ : Mem) : Prop := o = 201 ∧ KB μ ∧ (0 ≤ i ∧ i < μ 201 22) ∧ 0 ≤ j ∧ j < μ 201 22
def F_X11_at (_ i j : Int) (μ : Mem) : Int := AtM μ i j
def S_X11_at : S0t := fun as μ Q => match as with
  | [(2, x0), (0, x1), (0, x2)] => P_X11_at x0 x1 x2 μ ∧ Q μ (some (kL (F_X11_at x0 x1 x2 μ)))
  | _ => False
theorem mono_X11_at : Mono S_X11_at := by
  intro as μ Q Q' h hS
  unfold S_X11_at at hS ⊢
  split at hS
  · exact ⟨hS.1, h _ _ hS.2⟩
  · exact hS.elim
def iX11_at : Inf := (kX11_at, fTX11, pTX11, cTX11, lTX11, sTX11, [])
theorem ok_X11_at : infOK iX11_at mX11_at RX11 0 0 := ⟨kkX11_at, fTX11_ok, pTX11_ok _, cTX11_ok, lTX11_ok, sTX11_ok, c_nil⟩
theorem mt_X11_at : mtOK [] RX11 0 0 := mt_nil
abbrev V_X11_at (R : Mem → Option AV → Prop) (pc : Nat) (lc : List (Nat × AV)) (μ : Mem) : Prop := VM mX11_at RX11 0 0 R pc lc [] μ
set_option maxRecDepth 20000 in
theorem vc_X11_at_0 {R : Mem → Option AV → Prop} {i j : Int} {μ : Mem} (H : (0 ≤ i ∧ i < 4) ∧ (0 ≤ j ∧ j < 4) ∧ (0 ≤ ((24 * (μ 211 i)) + (μ 212 j)) ∧ ((24 * (μ 211 i)) + (μ 212 j)) < 96) ∧ r32 (μ 209 ((24 * (μ 211 i)) + (μ 212 j))) ∧ R μ (some (kL (μ 209 ((24 * (μ 211 i)) + (μ 212 j)))))) : V_X11_at R 0 [(0, kR 201), (1, kI i), (2, kI j)] μ := by
  refine vm_step2 mt_X11_at ok_X11_at [] 1000 ?_
  show isC 201 11 ∧ isC 201 11 ∧ inA 211 0 i ∧ isC 201 11 ∧ inA 212 0 j ∧ inA 209 0 ((24 * (μ 211 i)) + (μ 212 j)) ∧ r32 (μ 209 ((24 * (μ 211 i)) + (μ 212 j))) ∧ R μ (some (kL (μ 209 ((24 * (μ 211 i)) + (μ 212 j)))))
  exact ⟨c_201, ⟨c_201, ⟨isArr.in a_211 H.1.1 H.1.2, ⟨c_201, ⟨isArr.in a_212 H.2.1.1 H.2.1.2, ⟨isArr.in a_209 H.2.2.1.1 H.2.2.1.2, ⟨H.2.2.2.1, H.2.2.2.2⟩⟩⟩⟩⟩⟩⟩
theorem body_X11_at {o i j : Int} {μ : Mem} {R : Mem → Option AV → Prop} (h : P_X11_at o i j μ) (hR : R μ (some (kL (F_X11_at o i j μ)))) : V_X11_at R 0 [(0, kR o), (1, kI i), (2, kI j)] μ := by
  obtain ⟨rfl, hk, hi, hj⟩ := h
  have c := hk.c hi.1 hi.2
  have r := hk.r hj.1 hj.2
  have a := hk.a hi.1 hi.2 hj.1 hj.2
  have h1 := hk.1
  have h2 := hk.2.1
  have e : μ 209 (24 * μ 211 i + μ 212 j) = AtM μ i j := rfl
  refine vc_X11_at_0 ?_
  rw [e]
  exact ⟨by omega, by omega, by omega, rr (by omega), hR⟩
theorem ct_X11_at : Ct mX11_at 0 0 0 0 (nrmS S_X11_at) := by
  refine ct_vm (own := RX11) (by decide +kernel) rfl ?_ ?_
  · intro as μ Q hS
    unfold S_X11_at at hS
    split at hS
    · exact Nat.le_of_ble_eq_true rfl
    · exact hS.elim
  · intro as μ R hS
    unfold S_X11_at at hS
    split at hS
    · exact body_X11_at hS.1 hS.2
    · exact hS.elim
def P_X11_lowest (s : Int) (_ : Mem) : Prop := 0 ≤ s ∧ s < 16
def F_X11_lowest (s : Int) (_ : Mem) : Int := lowF s
def S_X11_lowest : S0t := fun as μ Q => match as with
  | [(0, x0)] => P_X11_lowest x0 μ ∧ Q μ (some (kI (F_X11_lowest x0 μ)))
  | _ => False
theorem mono_X11_lowest : Mono S_X11_lowest := by
  intro as μ Q Q' h hS
  unfold S_X11_lowest at hS ⊢
  split at hS
  · exact ⟨hS.1, h _ _ hS.2⟩
  · exact hS.elim
def iX11_lowest : Inf := (kX11_lowest, fTX11, pTX11, cTX11, lTX11, sTX11, [])
theorem ok_X11_lowest : infOK iX11_lowest mX11_lowest RX11 0 0 := ⟨kkX11_lowest, fTX11_ok, pTX11_ok _, cTX11_ok, lTX11_ok, sTX11_ok, c_nil⟩
theorem mt_X11_lowest : mtOK [] RX11 0 0 := mt_nil
abbrev V_X11_lowest (R : Mem → Option AV → Prop) (pc : Nat) (lc : List (Nat × AV)) (μ : Mem) : Prop := VM mX11_lowest RX11 0 0 R pc lc [] μ
set_option maxRecDepth 20000 in
theorem vc_X11_lowest_0 {R : Mem → Option AV → Prop} {s : Int} {μ : Mem} (H : V_X11_lowest R 2 [(0, kI s), (1, kI 0)] μ) : V_X11_lowest R 0 [(0, kI s)] μ := by
  refine vm_step2 mt_X11_lowest ok_X11_lowest [(2, [0, 1])] 1000 ?_
  show V_X11_lowest R 2 [(0, kI s), (1, kI 0)] μ
  exact H
set_option maxRecDepth 20000 in
theorem vc_X11_lowest_2 {R : Mem → Option AV → Prop} {s k : Int} {μ : Mem} (H : r32 k ∧ (((4 : Int) ≤ k) → R μ (some (kI k))) ∧ (¬ ((4 : Int) ≤ k) → r32 (band (bshr s k) 1) ∧ ((¬ (band (bshr s k) 1) = 0) → R μ (some (kI k))) ∧ (¬ (¬ (band (bshr s k) 1) = 0) → V_X11_lowest R 2 [(0, kI s), (1, kI (k + 1))] μ))) : V_X11_lowest R 2 [(0, kI s), (1, kI k)] μ := by
  refine vm_step2 mt_X11_lowest ok_X11_lowest [(2, [0, 1])] 1000 ?_
  show (r32 k ∧ r32 (4 : Int)) ∧ (((4 : Int) ≤ k) → R μ (some (kI k))) ∧ (¬ ((4 : Int) ≤ k) → r32 (band (bshr s k) 1) ∧ ((¬ (band (bshr s k) 1) = 0) → R μ (some (kI k))) ∧ (¬ (¬ (band (bshr s k) 1) = 0) → V_X11_lowest R 2 [(0, kI s), (1, kI (k + 1))] μ))
  exact ⟨⟨H.1, by unfold r32; omega⟩, fun hc2 => (H.2.1 hc2), fun hc2 => ⟨(H.2.2 hc2).1, fun hc1 => ((H.2.2 hc2).2.1 hc1), fun hc1 => ((H.2.2 hc2).2.2 hc1)⟩⟩
theorem body_X11_lowest {s : Int} {μ : Mem} {R : Mem → Option AV → Prop} (h : P_X11_lowest s μ) (hR : R μ (some (kI (F_X11_lowest s μ)))) : V_X11_lowest R 0 [(0, kI s)] μ := by
  have h : 0 ≤ s ∧ s < 16 := h
  unfold F_X11_lowest lowF at hR
  have st : ∀ k : Int, 0 ≤ k → k < 4 → (hasB s k = true → R μ (some (kI k))) → (¬ hasB s k = true → V_X11_lowest R 2 [(0, kI s), (1, kI (k + 1))] μ) → V_X11_lowest R 2 [(0, kI s), (1, kI k)] μ := fun k k0 k1 y n => by
    have et := b_tst (s := s) (a := k) (by omega) (by omega) k0 (by omega)
    refine vc_X11_lowest_2 ?_
    rw [et]
    by_cases b : hasB s k = true
    · rw [if_pos b]
      exact ⟨rr (by omega), fun c => absurd c (by omega), fun _ => ⟨rr (by omega), fun _ => y b, fun c => absurd (show ¬ (1 : Int) = 0 by omega) c⟩⟩
    · rw [if_neg b]
      exact ⟨rr (by omega), fun c => absurd c (by omega), fun _ => ⟨rr (by omega), fun c => absurd rfl c, fun _ => n b⟩⟩
  refine vc_X11_lowest_0 (st 0 (by omega) (by omega) (fun b => ?_) (fun b => st 1 (by omega) (by omega) (fun c => ?_) (fun c => st 2 (by omega) (by omega) (fun d => ?_) (fun d => st 3 (by omega) (by omega) (fun e => ?_) (fun e => ?_)))))
  · rw [if_pos b] at hR; exact hR
  · rw [if_neg b, if_pos c] at hR; exact hR
  · rw [if_neg b, if_neg c, if_pos d] at hR; exact hR
  · rw [if_neg b, if_neg c, if_neg d, if_pos e] at hR; exact hR
  · rw [if_neg b, if_neg c, if_neg d, if_neg e] at hR
    exact vc_X11_lowest_2 ⟨rr (by omega), fun _ => hR, fun c => absurd (show (4 : Int) ≤ 3 + 1 by omega) c⟩
theorem ct_X11_lowest : Ct mX11_lowest 0 0 0 0 (nrmS S_X11_lowest) := by
  refine ct_vm (own := RX11) (by decide +kernel) rfl ?_ ?_
  · intro as μ Q hS
    unfold S_X11_lowest at hS
    split at hS
    · exact Nat.le_of_ble_eq_true rfl
    · exact hS.elim
  · intro as μ R hS
    unfold S_X11_lowest at hS
    split at hS
    · exact body_X11_lowest hS.1 hS.2
    · exact hS.elim
def P_X11_minor (o p q n : Int) (μ : Mem) : Prop := o = 201 ∧ KB μ ∧ n = μ 201 22 - 1 ∧ ∃ i j : Int, (0 ≤ i ∧ i ≤ n) ∧ (0 ≤ j ∧ j ≤ n) ∧ p = msk (n + 1) i ∧ q = msk (n + 1) j
def F_X11_minor (_ p q n : Int) (μ : Mem) : Int := mdV n (fun a b => AtM μ (if a = 0 then lowF p else if a = 1 then lowF (lw2 p) else lowF (band (lw2 p) (lw2 p - 1))) (if b = 0 then lowF q else if b = 1 then lowF (lw2 q) else lowF (band (lw2 q) (lw2 q - 1))))
def S_X11_minor : S0t := fun as μ Q => match as with
  | [(2, x0), (0, x1), (0, x2), (0, x3)] => P_X11_minor x0 x1 x2 x3 μ ∧ Q μ (some (kL (F_X11_minor x0 x1 x2 x3 μ)))
  | _ => False
theorem mono_X11_minor : Mono S_X11_minor := by
  intro as μ Q Q' h hS
  unfold S_X11_minor at hS ⊢
  split at hS
  · exact ⟨hS.1, h _ _ hS.2⟩
  · exact hS.elim
def iX11_minor : Inf := (kX11_minor, fTX11, pTX11, cTX11, lTX11, sTX11, [(280, 1, 1, 0, S_X11_lowest), (283, 0, 2, 11, S_X11_at)])
theorem ok_X11_minor : infOK iX11_minor mX11_minor RX11 1 22 := ⟨kkX11_minor, fTX11_ok, pTX11_ok _, cTX11_ok, lTX11_ok, sTX11_ok, c_cons ⟨mX11_lowest, 0, 0, ct_X11_lowest, mmX11_lowest, stX11_lowest, lkX11_280, ⟨by decide, by decide⟩, mono_X11_lowest⟩ (c_cons ⟨mX11_at, 0, 0, ct_X11_at, mmX11_at, vvX11_at, lkX11_283, ⟨by decide, by decide⟩, ⟨_, _, rfl⟩, by decide, mono_X11_at⟩ (c_nil))⟩
theorem mt_X11_minor : mtOK [] RX11 1 22 := mt_nil
abbrev V_X11_minor (R : Mem → Option AV → Prop) (pc : Nat) (lc : List (Nat × AV)) (μ : Mem) : Prop := VM mX11_minor RX11 1 22 R pc lc [] μ
set_option maxRecDepth 20000 in
theorem vc_X11_minor_0 {R : Mem → Option AV → Prop} {p q n : Int} {μ : Mem} (H : P_X11_lowest p μ ∧ P_X11_lowest q μ ∧ r32 n ∧ ((¬ n = 0) → r32 n ∧ ((¬ n = (1 : Int)) → P_X11_lowest (band p (p - 1)) μ ∧ P_X11_lowest (band q (q - 1)) μ ∧ r32 n ∧ ((¬ n = (2 : Int)) → P_X11_lowest (band (band p (p - 1)) ((band p (p - 1)) - 1)) μ ∧ P_X11_lowest (band (band q (q - 1)) ((band q (q - 1)) - 1)) μ ∧ P_X11_at 201 (F_X11_lowest p μ) (F_X11_lowest q μ) μ ∧ P_X11_at 201 (F_X11_lowest (band p (p - 1)) μ) (F_X11_lowest (band q (q - 1)) μ) μ ∧ P_X11_at 201 (F_X11_lowest (band (band p (p - 1)) ((band p (p - 1)) - 1)) μ) (F_X11_lowest (band (band q (q - 1)) ((band q (q - 1)) - 1)) μ) μ ∧ P_X11_at 201 (F_X11_lowest (band p (p - 1)) μ) (F_X11_lowest (band (band q (q - 1)) ((band q (q - 1)) - 1)) μ) μ ∧ P_X11_at 201 (F_X11_lowest (band (band p (p - 1)) ((band p (p - 1)) - 1)) μ) (F_X11_lowest (band q (q - 1)) μ) μ ∧ P_X11_at 201 (F_X11_lowest p μ) (F_X11_lowest (band q (q - 1)) μ) μ ∧ P_X11_at 201 (F_X11_lowest (band p (p - 1)) μ) (F_X11_lowest q μ) μ ∧ P_X11_at 201 (F_X11_lowest (band (band p (p - 1)) ((band p (p - 1)) - 1)) μ) (F_X11_lowest (band (band q (q - 1)) ((band q (q - 1)) - 1)) μ) μ ∧ P_X11_at 201 (F_X11_lowest (band p (p - 1)) μ) (F_X11_lowest (band (band q (q - 1)) ((band q (q - 1)) - 1)) μ) μ ∧ P_X11_at 201 (F_X11_lowest (band (band p (p - 1)) ((band p (p - 1)) - 1)) μ) (F_X11_lowest q μ) μ ∧ P_X11_at 201 (F_X11_lowest p μ) (F_X11_lowest (band (band q (q - 1)) ((band q (q - 1)) - 1)) μ) μ ∧ P_X11_at 201 (F_X11_lowest (band p (p - 1)) μ) (F_X11_lowest q μ) μ ∧ P_X11_at 201 (F_X11_lowest (band (band p (p - 1)) ((band p (p - 1)) - 1)) μ) (F_X11_lowest (band q (q - 1)) μ) μ ∧ P_X11_at 201 (F_X11_lowest (band p (p - 1)) μ) (F_X11_lowest (band q (q - 1)) μ) μ ∧ P_X11_at 201 (F_X11_lowest (band (band p (p - 1)) ((band p (p - 1)) - 1)) μ) (F_X11_lowest q μ) μ ∧ R μ (some (kL ((((F_X11_at 201 (F_X11_lowest p μ) (F_X11_lowest q μ) μ) * (((F_X11_at 201 (F_X11_lowest (band p (p - 1)) μ) (F_X11_lowest (band q (q - 1)) μ) μ) * (F_X11_at 201 (F_X11_lowest (band (band p (p - 1)) ((band p (p - 1)) - 1)) μ) (F_X11_lowest (band (band q (q - 1)) ((band q (q - 1)) - 1)) μ) μ)) - ((F_X11_at 201 (F_X11_lowest (band p (p - 1)) μ) (F_X11_lowest (band (band q (q - 1)) ((band q (q - 1)) - 1)) μ) μ) * (F_X11_at 201 (F_X11_lowest (band (band p (p - 1)) ((band p (p - 1)) - 1)) μ) (F_X11_lowest (band q (q - 1)) μ) μ)))) - ((F_X11_at 201 (F_X11_lowest p μ) (F_X11_lowest (band q (q - 1)) μ) μ) * (((F_X11_at 201 (F_X11_lowest (band p (p - 1)) μ) (F_X11_lowest q μ) μ) * (F_X11_at 201 (F_X11_lowest (band (band p (p - 1)) ((band p (p - 1)) - 1)) μ) (F_X11_lowest (band (band q (q - 1)) ((band q (q - 1)) - 1)) μ) μ)) - ((F_X11_at 201 (F_X11_lowest (band p (p - 1)) μ) (F_X11_lowest (band (band q (q - 1)) ((band q (q - 1)) - 1)) μ) μ) * (F_X11_at 201 (F_X11_lowest (band (band p (p - 1)) ((band p (p - 1)) - 1)) μ) (F_X11_lowest q μ) μ))))) + ((F_X11_at 201 (F_X11_lowest p μ) (F_X11_lowest (band (band q (q - 1)) ((band q (q - 1)) - 1)) μ) μ) * (((F_X11_at 201 (F_X11_lowest (band p (p - 1)) μ) (F_X11_lowest q μ) μ) * (F_X11_at 201 (F_X11_lowest (band (band p (p - 1)) ((band p (p - 1)) - 1)) μ) (F_X11_lowest (band q (q - 1)) μ) μ)) - ((F_X11_at 201 (F_X11_lowest (band p (p - 1)) μ) (F_X11_lowest (band q (q - 1)) μ) μ) * (F_X11_at 201 (F_X11_lowest (band (band p (p - 1)) ((band p (p - 1)) - 1)) μ) (F_X11_lowest q μ) μ)))))))) ∧ (¬ (¬ n = (2 : Int)) → P_X11_at 201 (F_X11_lowest p μ) (F_X11_lowest q μ) μ ∧ P_X11_at 201 (F_X11_lowest (band p (p - 1)) μ) (F_X11_lowest (band q (q - 1)) μ) μ ∧ P_X11_at 201 (F_X11_lowest p μ) (F_X11_lowest (band q (q - 1)) μ) μ ∧ P_X11_at 201 (F_X11_lowest (band p (p - 1)) μ) (F_X11_lowest q μ) μ ∧ R μ (some (kL (((F_X11_at 201 (F_X11_lowest p μ) (F_X11_lowest q μ) μ) * (F_X11_at 201 (F_X11_lowest (band p (p - 1)) μ) (F_X11_lowest (band q (q - 1)) μ) μ)) - ((F_X11_at 201 (F_X11_lowest p μ) (F_X11_lowest (band q (q - 1)) μ) μ) * (F_X11_at 201 (F_X11_lowest (band p (p - 1)) μ) (F_X11_lowest q μ) μ))))))) ∧ (¬ (¬ n = (1 : Int)) → P_X11_at 201 (F_X11_lowest p μ) (F_X11_lowest q μ) μ ∧ R μ (some (kL (F_X11_at 201 (F_X11_lowest p μ) (F_X11_lowest q μ) μ))))) ∧ (¬ (¬ n = 0) → R μ (some (kL 1)))) : V_X11_minor R 0 [(0, kR 201), (1, kI p), (2, kI q), (3, kI n)] μ := by
  refine vm_step2 mt_X11_minor ok_X11_minor [] 1000 ?_
  show P_X11_lowest p μ ∧ P_X11_lowest q μ ∧ r32 n ∧ ((¬ n = 0) → (r32 n ∧ r32 (1 : Int)) ∧ ((¬ n = (1 : Int)) → P_X11_lowest (band p (p - 1)) μ ∧ P_X11_lowest (band q (q - 1)) μ ∧ (r32 n ∧ r32 (2 : Int)) ∧ ((¬ n = (2 : Int)) → P_X11_lowest (band (band p (p - 1)) ((band p (p - 1)) - 1)) μ ∧ P_X11_lowest (band (band q (q - 1)) ((band q (q - 1)) - 1)) μ ∧ isC 201 11 ∧ P_X11_at 201 (F_X11_lowest p μ) (F_X11_lowest q μ) μ ∧ isC 201 11 ∧ P_X11_at 201 (F_X11_lowest (band p (p - 1)) μ) (F_X11_lowest (band q (q - 1)) μ) μ ∧ isC 201 11 ∧ P_X11_at 201 (F_X11_lowest (band (band p (p - 1)) ((band p (p - 1)) - 1)) μ) (F_X11_lowest (band (band q (q - 1)) ((band q (q - 1)) - 1)) μ) μ ∧ isC 201 11 ∧ P_X11_at 201 (F_X11_lowest (band p (p - 1)) μ) (F_X11_lowest (band (band q (q - 1)) ((band q (q - 1)) - 1)) μ) μ ∧ isC 201 11 ∧ P_X11_at 201 (F_X11_lowest (band (band p (p - 1)) ((band p (p - 1)) - 1)) μ) (F_X11_lowest (band q (q - 1)) μ) μ ∧ isC 201 11 ∧ P_X11_at 201 (F_X11_lowest p μ) (F_X11_lowest (band q (q - 1)) μ) μ ∧ isC 201 11 ∧ P_X11_at 201 (F_X11_lowest (band p (p - 1)) μ) (F_X11_lowest q μ) μ ∧ isC 201 11 ∧ P_X11_at 201 (F_X11_lowest (band (band p (p - 1)) ((band p (p - 1)) - 1)) μ) (F_X11_lowest (band (band q (q - 1)) ((band q (q - 1)) - 1)) μ) μ ∧ isC 201 11 ∧ P_X11_at 201 (F_X11_lowest (band p (p - 1)) μ) (F_X11_lowest (band (band q (q - 1)) ((band q (q - 1)) - 1)) μ) μ ∧ isC 201 11 ∧ P_X11_at 201 (F_X11_lowest (band (band p (p - 1)) ((band p (p - 1)) - 1)) μ) (F_X11_lowest q μ) μ ∧ isC 201 11 ∧ P_X11_at 201 (F_X11_lowest p μ) (F_X11_lowest (band (band q (q - 1)) ((band q (q - 1)) - 1)) μ) μ ∧ isC 201 11 ∧ P_X11_at 201 (F_X11_lowest (band p (p - 1)) μ) (F_X11_lowest q μ) μ ∧ isC 201 11 ∧ P_X11_at 201 (F_X11_lowest (band (band p (p - 1)) ((band p (p - 1)) - 1)) μ) (F_X11_lowest (band q (q - 1)) μ) μ ∧ isC 201 11 ∧ P_X11_at 201 (F_X11_lowest (band p (p - 1)) μ) (F_X11_lowest (band q (q - 1)) μ) μ ∧ isC 201 11 ∧ P_X11_at 201 (F_X11_lowest (band (band p (p - 1)) ((band p (p - 1)) - 1)) μ) (F_X11_lowest q μ) μ ∧ R μ (some (kL ((((F_X11_at 201 (F_X11_lowest p μ) (F_X11_lowest q μ) μ) * (((F_X11_at 201 (F_X11_lowest (band p (p - 1)) μ) (F_X11_lowest (band q (q - 1)) μ) μ) * (F_X11_at 201 (F_X11_lowest (band (band p (p - 1)) ((band p (p - 1)) - 1)) μ) (F_X11_lowest (band (band q (q - 1)) ((band q (q - 1)) - 1)) μ) μ)) - ((F_X11_at 201 (F_X11_lowest (band p (p - 1)) μ) (F_X11_lowest (band (band q (q - 1)) ((band q (q - 1)) - 1)) μ) μ) * (F_X11_at 201 (F_X11_lowest (band (band p (p - 1)) ((band p (p - 1)) - 1)) μ) (F_X11_lowest (band q (q - 1)) μ) μ)))) - ((F_X11_at 201 (F_X11_lowest p μ) (F_X11_lowest (band q (q - 1)) μ) μ) * (((F_X11_at 201 (F_X11_lowest (band p (p - 1)) μ) (F_X11_lowest q μ) μ) * (F_X11_at 201 (F_X11_lowest (band (band p (p - 1)) ((band p (p - 1)) - 1)) μ) (F_X11_lowest (band (band q (q - 1)) ((band q (q - 1)) - 1)) μ) μ)) - ((F_X11_at 201 (F_X11_lowest (band p (p - 1)) μ) (F_X11_lowest (band (band q (q - 1)) ((band q (q - 1)) - 1)) μ) μ) * (F_X11_at 201 (F_X11_lowest (band (band p (p - 1)) ((band p (p - 1)) - 1)) μ) (F_X11_lowest q μ) μ))))) + ((F_X11_at 201 (F_X11_lowest p μ) (F_X11_lowest (band (band q (q - 1)) ((band q (q - 1)) - 1)) μ) μ) * (((F_X11_at 201 (F_X11_lowest (band p (p - 1)) μ) (F_X11_lowest q μ) μ) * (F_X11_at 201 (F_X11_lowest (band (band p (p - 1)) ((band p (p - 1)) - 1)) μ) (F_X11_lowest (band q (q - 1)) μ) μ)) - ((F_X11_at 201 (F_X11_lowest (band p (p - 1)) μ) (F_X11_lowest (band q (q - 1)) μ) μ) * (F_X11_at 201 (F_X11_lowest (band (band p (p - 1)) ((band p (p - 1)) - 1)) μ) (F_X11_lowest q μ) μ)))))))) ∧ (¬ (¬ n = (2 : Int)) → isC 201 11 ∧ P_X11_at 201 (F_X11_lowest p μ) (F_X11_lowest q μ) μ ∧ isC 201 11 ∧ P_X11_at 201 (F_X11_lowest (band p (p - 1)) μ) (F_X11_lowest (band q (q - 1)) μ) μ ∧ isC 201 11 ∧ P_X11_at 201 (F_X11_lowest p μ) (F_X11_lowest (band q (q - 1)) μ) μ ∧ isC 201 11 ∧ P_X11_at 201 (F_X11_lowest (band p (p - 1)) μ) (F_X11_lowest q μ) μ ∧ R μ (some (kL (((F_X11_at 201 (F_X11_lowest p μ) (F_X11_lowest q μ) μ) * (F_X11_at 201 (F_X11_lowest (band p (p - 1)) μ) (F_X11_lowest (band q (q - 1)) μ) μ)) - ((F_X11_at 201 (F_X11_lowest p μ) (F_X11_lowest (band q (q - 1)) μ) μ) * (F_X11_at 201 (F_X11_lowest (band p (p - 1)) μ) (F_X11_lowest q μ) μ))))))) ∧ (¬ (¬ n = (1 : Int)) → isC 201 11 ∧ P_X11_at 201 (F_X11_lowest p μ) (F_X11_lowest q μ) μ ∧ R μ (some (kL (F_X11_at 201 (F_X11_lowest p μ) (F_X11_lowest q μ) μ))))) ∧ (¬ (¬ n = 0) → R μ (some (kL 1)))
  exact ⟨H.1, ⟨H.2.1, ⟨H.2.2.1, fun hc3 => ⟨⟨(H.2.2.2.1 hc3).1, by unfold r32; omega⟩, fun hc2 => ⟨((H.2.2.2.1 hc3).2.1 hc2).1, ⟨((H.2.2.2.1 hc3).2.1 hc2).2.1, ⟨⟨((H.2.2.2.1 hc3).2.1 hc2).2.2.1, by unfold r32; omega⟩, fun hc1 => ⟨(((H.2.2.2.1 hc3).2.1 hc2).2.2.2.1 hc1).1, ⟨(((H.2.2.2.1 hc3).2.1 hc2).2.2.2.1 hc1).2.1, ⟨c_201, (((H.2.2.2.1 hc3).2.1 hc2).2.2.2.1 hc1).2.2.1, ⟨c_201, (((H.2.2.2.1 hc3).2.1 hc2).2.2.2.1 hc1).2.2.2.1, ⟨c_201, (((H.2.2.2.1 hc3).2.1 hc2).2.2.2.1 hc1).2.2.2.2.1, ⟨c_201, (((H.2.2.2.1 hc3).2.1 hc2).2.2.2.1 hc1).2.2.2.2.2.1, ⟨c_201, (((H.2.2.2.1 hc3).2.1 hc2).2.2.2.1 hc1).2.2.2.2.2.2.1, ⟨c_201, (((H.2.2.2.1 hc3).2.1 hc2).2.2.2.1 hc1).2.2.2.2.2.2.2.1, ⟨c_201, (((H.2.2.2.1 hc3).2.1 hc2).2.2.2.1 hc1).2.2.2.2.2.2.2.2.1, ⟨c_201, (((H.2.2.2.1 hc3).2.1 hc2).2.2.2.1 hc1).2.2.2.2.2.2.2.2.2.1, ⟨c_201, (((H.2.2.2.1 hc3).2.1 hc2).2.2.2.1 hc1).2.2.2.2.2.2.2.2.2.2.1, ⟨c_201, (((H.2.2.2.1 hc3).2.1 hc2).2.2.2.1 hc1).2.2.2.2.2.2.2.2.2.2.2.1, ⟨c_201, (((H.2.2.2.1 hc3).2.1 hc2).2.2.2.1 hc1).2.2.2.2.2.2.2.2.2.2.2.2.1, ⟨c_201, (((H.2.2.2.1 hc3).2.1 hc2).2.2.2.1 hc1).2.2.2.2.2.2.2.2.2.2.2.2.2.1, ⟨c_201, (((H.2.2.2.1 hc3).2.1 hc2).2.2.2.1 hc1).2.2.2.2.2.2.2.2.2.2.2.2.2.2.1, ⟨c_201, (((H.2.2.2.1 hc3).2.1 hc2).2.2.2.1 hc1).2.2.2.2.2.2.2.2.2.2.2.2.2.2.2.1, ⟨c_201, (((H.2.2.2.1 hc3).2.1 hc2).2.2.2.1 hc1).2.2.2.2.2.2.2.2.2.2.2.2.2.2.2.2.1, (((H.2.2.2.1 hc3).2.1 hc2).2.2.2.1 hc1).2.2.2.2.2.2.2.2.2.2.2.2.2.2.2.2.2⟩⟩⟩⟩⟩⟩⟩⟩⟩⟩⟩⟩⟩⟩⟩⟩⟩, fun hc1 => ⟨c_201, (((H.2.2.2.1 hc3).2.1 hc2).2.2.2.2 hc1).1, ⟨c_201, (((H.2.2.2.1 hc3).2.1 hc2).2.2.2.2 hc1).2.1, ⟨c_201, (((H.2.2.2.1 hc3).2.1 hc2).2.2.2.2 hc1).2.2.1, ⟨c_201, (((H.2.2.2.1 hc3).2.1 hc2).2.2.2.2 hc1).2.2.2.1, (((H.2.2.2.1 hc3).2.1 hc2).2.2.2.2 hc1).2.2.2.2⟩⟩⟩⟩⟩⟩⟩, fun hc2 => ⟨c_201, ((H.2.2.2.1 hc3).2.2 hc2).1, ((H.2.2.2.1 hc3).2.2 hc2).2⟩⟩, fun hc3 => (H.2.2.2.2 hc3)⟩⟩⟩
theorem body_X11_minor {o p q n : Int} {μ : Mem} {R : Mem → Option AV → Prop} (h : P_X11_minor o p q n μ) (hR : R μ (some (kL (F_X11_minor o p q n μ)))) : V_X11_minor R 0 [(0, kR o), (1, kI p), (2, kI q), (3, kI n)] μ := by
  obtain ⟨rfl, hk, hn, i, j, hi, hj, ep, eq⟩ := h
  have hk1 := hk.1
  obtain ⟨p1, p2, p3, p4, p5, p6⟩ := msk_at (k := n + 1) (i := i) (by omega) hi.1 (by omega)
  obtain ⟨q1, q2, q3, q4, q5, q6⟩ := msk_at (k := n + 1) (i := j) (by omega) hj.1 (by omega)
  rw [← ep] at p1 p2 p3 p4 p5 p6
  rw [← eq] at q1 q2 q3 q4 q5 q6
  have s3 : ∀ i l : Int, 0 ≤ i → i ≤ n → 0 ≤ l → l < n → 0 ≤ ski i l ∧ ski i l < μ 201 22 := fun i l i0 i1 l0 l1 => by
    have := ski_in (i := i) (l := l) (k := n + 1) l0 (by omega) i0
    omega
  unfold F_X11_minor mdV at hR
  refine vc_X11_minor_0 ?_
  unfold F_X11_lowest F_X11_at P_X11_lowest P_X11_at
  have el : ∀ s, band s (s - 1) = lw2 s := fun _ => rfl
  rw [el p, el q]
  refine ⟨p1, q1, rr (by omega), fun a => ⟨rr (by omega), fun b => ⟨p5, q5, rr (by omega), fun c => ?_, fun c => ?_⟩, fun b => ?_⟩, fun a => ?_⟩
  · rw [if_neg a, if_neg b, if_neg c] at hR
    have a0 := s3 i 0 hi.1 hi.2 (by omega) (by omega)
    have a1 := s3 i 1 hi.1 hi.2 (by omega) (by omega)
    have a2 := s3 i 2 hi.1 hi.2 (by omega) (by omega)
    have b0 := s3 j 0 hj.1 hj.2 (by omega) (by omega)
    have b1 := s3 j 1 hj.1 hj.2 (by omega) (by omega)
    have b2 := s3 j 2 hj.1 hj.2 (by omega) (by omega)
    rw [← p2 (by omega)] at a0
    rw [← p3 (by omega)] at a1
    rw [← p4 (by omega)] at a2
    rw [← q2 (by omega)] at b0
    rw [← q3 (by omega)] at b1
    rw [← q4 (by omega)] at b2
    exact ⟨p6, q6, ⟨rfl, hk, a0, b0⟩, ⟨rfl, hk, a1, b1⟩, ⟨rfl, hk, a2, b2⟩, ⟨rfl, hk, a1, b2⟩, ⟨rfl, hk, a2, b1⟩, ⟨rfl, hk, a0, b1⟩, ⟨rfl, hk, a1, b0⟩, ⟨rfl, hk, a2, b2⟩, ⟨rfl, hk, a1, b2⟩, ⟨rfl, hk, a2, b0⟩, ⟨rfl, hk, a0, b2⟩, ⟨rfl, hk, a1, b0⟩, ⟨rfl, hk, a2, b1⟩, ⟨rfl, hk, a1, b1⟩, ⟨rfl, hk, a2, b0⟩, hR⟩
  · rw [if_neg a, if_neg b, if_pos (Classical.not_not.mp c)] at hR
    have cc := Classical.not_not.mp c
    have a0 := s3 i 0 hi.1 hi.2 (by omega) (by omega)
    have a1 := s3 i 1 hi.1 hi.2 (by omega) (by omega)
    have b0 := s3 j 0 hj.1 hj.2 (by omega) (by omega)
    have b1 := s3 j 1 hj.1 hj.2 (by omega) (by omega)
    rw [← p2 (by omega)] at a0
    rw [← p3 (by omega)] at a1
    rw [← q2 (by omega)] at b0
    rw [← q3 (by omega)] at b1
    exact ⟨⟨rfl, hk, a0, b0⟩, ⟨rfl, hk, a1, b1⟩, ⟨rfl, hk, a0, b1⟩, ⟨rfl, hk, a1, b0⟩, hR⟩
  · rw [if_neg a, if_pos (Classical.not_not.mp b)] at hR
    have bb := Classical.not_not.mp b
    have a0 := s3 i 0 hi.1 hi.2 (by omega) (by omega)
    have b0 := s3 j 0 hj.1 hj.2 (by omega) (by omega)
    rw [← p2 (by omega)] at a0
    rw [← q2 (by omega)] at b0
    exact ⟨⟨rfl, hk, a0, b0⟩, hR⟩
  · rw [if_pos (Classical.not_not.mp a)] at hR
    exact hR
theorem mdV_congr {n : Int} {B B' : Int → Int → Int} (n0 : 0 ≤ n) (n3 : n ≤ 3) (h : ∀ a b : Int, 0 ≤ a → a < n → 0 ≤ b → b < n → B a b = B' a b) : mdV n B = mdV n B' := by
  unfold mdV
  rcases (by omega : n = 0 ∨ n = 1 ∨ n = 2 ∨ n = 3) with e | e | e | e <;> subst e
  · rfl
  · rw [if_neg (by omega), if_pos rfl, if_neg (by omega), if_pos rfl]
    exact h 0 0 (by omega) (by omega) (by omega) (by omega)
  · rw [if_neg (by omega), if_neg (by omega), if_pos rfl, if_neg (by omega), if_neg (by omega), if_pos rfl, h 0 0 (by omega) (by omega) (by omega) (by omega), h 1 1 (by omega) (by omega) (by omega) (by omega), h 0 1 (by omega) (by omega) (by omega) (by omega), h 1 0 (by omega) (by omega) (by omega) (by omega)]
  · rw [if_neg (by omega), if_neg (by omega), if_neg (by omega), if_neg (by omega), if_neg (by omega), if_neg (by omega), h 0 0 (by omega) (by omega) (by omega) (by omega), h 1 1 (by omega) (by omega) (by omega) (by omega), h 0 1 (by omega) (by omega) (by omega) (by omega), h 1 0 (by omega) (by omega) (by omega) (by omega), h 2 2 (by omega) (by omega) (by omega) (by omega), h 1 2 (by omega) (by omega) (by omega) (by omega), h 2 1 (by omega) (by omega) (by omega) (by omega), h 2 0 (by omega) (by omega) (by omega) (by omega), h 0 2 (by omega) (by omega) (by omega) (by omega)]
theorem minor_ski {μ : Mem} {n i j : Int} (n0 : 0 ≤ n) (n3 : n ≤ 3) (hi : 0 ≤ i ∧ i ≤ n) (hj : 0 ≤ j ∧ j ≤ n) : F_X11_minor 201 (msk (n + 1) i) (msk (n + 1) j) n μ = mdV n (fun a b => AtM μ (ski i a) (ski j b)) := by
  obtain ⟨_, p2, p3, p4, _⟩ := msk_at (k := n + 1) (i := i) (by omega) hi.1 (by omega)
  obtain ⟨_, q2, q3, q4, _⟩ := msk_at (k := n + 1) (i := j) (by omega) hj.1 (by omega)
  unfold F_X11_minor
  refine mdV_congr n0 n3 fun a b a0 a1 b0 b1 => ?_
  have ha : (if a = 0 then lowF (msk (n + 1) i) else if a = 1 then lowF (lw2 (msk (n + 1) i)) else lowF (band (lw2 (msk (n + 1) i)) (lw2 (msk (n + 1) i) - 1))) = ski i a := by
    rcases (by omega : a = 0 ∨ a = 1 ∨ a = 2) with e | e | e <;> subst e
    · rw [if_pos rfl]; exact p2 (by omega)
    · rw [if_neg (by omega), if_pos rfl]; exact p3 (by omega)
    · rw [if_neg (by omega), if_neg (by omega)]; exact p4 (by omega)
  have hb : (if b = 0 then lowF (msk (n + 1) j) else if b = 1 then lowF (lw2 (msk (n + 1) j)) else lowF (band (lw2 (msk (n + 1) j)) (lw2 (msk (n + 1) j) - 1))) = ski j b := by
    rcases (by omega : b = 0 ∨ b = 1 ∨ b = 2) with e | e | e <;> subst e
    · rw [if_pos rfl]; exact q2 (by omega)
    · rw [if_neg (by omega), if_pos rfl]; exact q3 (by omega)
    · rw [if_neg (by omega), if_neg (by omega)]; exact q4 (by omega)
  show AtM μ _ _ = AtM μ _ _
  rw [ha, hb]
theorem ct_X11_minor : Ct mX11_minor 1 22 0 0 (nrmS S_X11_minor) := by
  refine ct_vm (own := RX11) (by decide +kernel) rfl ?_ ?_
  · intro as μ Q hS
    unfold S_X11_minor at hS
    split at hS
    · exact Nat.le_of_ble_eq_true rfl
    · exact hS.elim
  · intro as μ R hS
    unfold S_X11_minor at hS
    split at hS
    · exact body_X11_minor hS.1 hS.2
    · exact hS.elim
def P_X11_cofactor (o i j : Int) (μ : Mem) : Prop := o = 201 ∧ KB μ ∧ (0 ≤ i ∧ i < μ 201 22) ∧ 0 ≤ j ∧ j < μ 201 22
def F_X11_cofactor (_ i j : Int) (μ : Mem) : Int := cofM (AtM μ) (μ 201 22) i j
def S_X11_cofactor : S0t := fun as μ Q => match as with
  | [(2, x0), (0, x1), (0, x2)] => P_X11_cofactor x0 x1 x2 μ ∧ Q μ (some (kL (F_X11_cofactor x0 x1 x2 μ)))
  | _ => False
theorem mono_X11_cofactor : Mono S_X11_cofactor := by
  intro as μ Q Q' h hS
  unfold S_X11_cofactor at hS ⊢
  split at hS
  · exact ⟨hS.1, h _ _ hS.2⟩
  · exact hS.elim
def iX11_cofactor : Inf := (kX11_cofactor, fTX11, pTX11, cTX11, lTX11, sTX11, [(290, 0, 3, 11, S_X11_minor)])
theorem ok_X11_cofactor : infOK iX11_cofactor mX11_cofactor RX11 2 51 := ⟨kkX11_cofactor, fTX11_ok, pTX11_ok _, cTX11_ok, lTX11_ok, sTX11_ok, c_cons ⟨mX11_minor, 1, 22, ct_X11_minor, mmX11_minor, vvX11_minor, lkX11_290, ⟨by decide, by decide⟩, ⟨_, _, rfl⟩, by decide, mono_X11_minor⟩ (c_nil)⟩
theorem mt_X11_cofactor : mtOK [] RX11 2 51 := mt_nil
abbrev V_X11_cofactor (R : Mem → Option AV → Prop) (pc : Nat) (lc : List (Nat × AV)) (μ : Mem) : Prop := VM mX11_cofactor RX11 2 51 R pc lc [] μ
set_option maxRecDepth 20000 in
theorem vc_X11_cofactor_0 {R : Mem → Option AV → Prop} {i j : Int} {μ : Mem} (H : P_X11_minor 201 (band ((bshl 1 (μ 201 22)) - 1) (bxor (bshl 1 i) (-1))) (band ((bshl 1 (μ 201 22)) - 1) (bxor (bshl 1 j) (-1))) ((μ 201 22) - 1) μ ∧ r32 (i + j) ∧ r32 (Int.tmod (i + j) 2) ∧ ((¬ (Int.tmod (i + j) 2) = 0) → R μ (some (kL (-(F_X11_minor 201 (band ((bshl 1 (μ 201 22)) - 1) (bxor (bshl 1 i) (-1))) (band ((bshl 1 (μ 201 22)) - 1) (bxor (bshl 1 j) (-1))) ((μ 201 22) - 1) μ))))) ∧ (¬ (¬ (Int.tmod (i + j) 2) = 0) → R μ (some (kL (F_X11_minor 201 (band ((bshl 1 (μ 201 22)) - 1) (bxor (bshl 1 i) (-1))) (band ((bshl 1 (μ 201 22)) - 1) (bxor (bshl 1 j) (-1))) ((μ 201 22) - 1) μ))))) : V_X11_cofactor R 0 [(0, kR 201), (1, kI i), (2, kI j)] μ := by
  refine vm_step2 mt_X11_cofactor ok_X11_cofactor [] 1000 ?_
  show isC 201 11 ∧ isC 201 11 ∧ isC 201 11 ∧ P_X11_minor 201 (band ((bshl 1 (μ 201 22)) - 1) (bxor (bshl 1 i) (-1))) (band ((bshl 1 (μ 201 22)) - 1) (bxor (bshl 1 j) (-1))) ((μ 201 22) - 1) μ ∧ (r32 (i + j) ∧ r32 (2 : Int) ∧ (2 : Int) ≠ 0) ∧ r32 (Int.tmod (i + j) 2) ∧ ((¬ (Int.tmod (i + j) 2) = 0) → R μ (some (kL (-(F_X11_minor 201 (band ((bshl 1 (μ 201 22)) - 1) (bxor (bshl 1 i) (-1))) (band ((bshl 1 (μ 201 22)) - 1) (bxor (bshl 1 j) (-1))) ((μ 201 22) - 1) μ))))) ∧ (¬ (¬ (Int.tmod (i + j) 2) = 0) → R μ (some (kL (F_X11_minor 201 (band ((bshl 1 (μ 201 22)) - 1) (bxor (bshl 1 i) (-1))) (band ((bshl 1 (μ 201 22)) - 1) (bxor (bshl 1 j) (-1))) ((μ 201 22) - 1) μ))))
  exact ⟨c_201, ⟨c_201, ⟨c_201, H.1, ⟨⟨H.2.1, by unfold r32; omega, by omega⟩, ⟨H.2.2.1, fun hc1 => (H.2.2.2.1 hc1), fun hc1 => (H.2.2.2.2 hc1)⟩⟩⟩⟩⟩
theorem body_X11_cofactor {o i j : Int} {μ : Mem} {R : Mem → Option AV → Prop} (h : P_X11_cofactor o i j μ) (hR : R μ (some (kL (F_X11_cofactor o i j μ)))) : V_X11_cofactor R 0 [(0, kR o), (1, kI i), (2, kI j)] μ := by
  obtain ⟨rfl, hk, hi, hj⟩ := h
  have hk1 := hk.1
  unfold F_X11_cofactor cofM at hR
  have e1 : band (bshl 1 (μ 201 22) - 1) (bxor (bshl 1 i) (-1)) = msk (μ 201 22 - 1 + 1) i := by rw [show μ 201 22 - 1 + 1 = μ 201 22 by omega]; rfl
  have e2 : band (bshl 1 (μ 201 22) - 1) (bxor (bshl 1 j) (-1)) = msk (μ 201 22 - 1 + 1) j := by rw [show μ 201 22 - 1 + 1 = μ 201 22 by omega]; rfl
  have em : Int.tmod (i + j) 2 = (i + j) % 2 := Int.tmod_eq_emod_of_nonneg (by omega)
  refine vc_X11_cofactor_0 ?_
  rw [e1, e2, em, minor_ski (by omega) (by omega) (by omega) (by omega)]
  refine ⟨⟨rfl, hk, rfl, i, j, by omega, by omega, rfl, rfl⟩, rr (by omega), rr (by omega), fun c => ?_, fun c => ?_⟩
  · rw [if_neg c, Int.neg_one_mul] at hR; exact hR
  · rw [if_pos (Classical.not_not.mp c), Int.one_mul] at hR; exact hR
theorem ct_X11_cofactor : Ct mX11_cofactor 2 51 0 0 (nrmS S_X11_cofactor) := by
  refine ct_vm (own := RX11) (by decide +kernel) rfl ?_ ?_
  · intro as μ Q hS
    unfold S_X11_cofactor at hS
    split at hS
    · exact Nat.le_of_ble_eq_true rfl
    · exact hS.elim
  · intro as μ R hS
    unfold S_X11_cofactor at hS
    split at hS
    · exact body_X11_cofactor hS.1 hS.2
    · exact hS.elim
def P_X11_turns (o : Int) (μ : Mem) : Prop := o = 201 ∧ 0 ≤ μ 201 22 ∧ μ 201 22 ≤ 4
def Q_X11_turns (_ : Int) (μ μ' : Mem) : Prop := μ' 201 27 = -(μ 201 27) ∧ μ' 201 28 = -(μ 201 28) ∧ (∀ i : Int, 0 ≤ i → i < μ 201 22 → μ' 213 i = -(μ 213 i) ∧ μ' 214 i = -(μ 214 i)) ∧ (∀ f : Int, f ≠ 27 → f ≠ 28 → μ' 201 f = μ 201 f) ∧ ∀ z : Int, z ≠ 201 → z ≠ 213 → z ≠ 214 → μ' z = μ z
def S_X11_turns : S0t := fun as μ Q => match as with
  | [(2, x0)] => P_X11_turns x0 μ ∧ ∀ (μ' : Mem) , Q_X11_turns x0 μ μ'  → Q μ' none
  | _ => False
theorem mono_X11_turns : Mono S_X11_turns := by
  intro as μ Q Q' h hS
  unfold S_X11_turns at hS ⊢
  split at hS
  · exact ⟨hS.1, fun μ' q => h _ _ (hS.2 _ q)⟩
  · exact hS.elim
def iX11_turns : Inf := (kX11_turns, fTX11, pTX11, cTX11, lTX11, sTX11, [])
theorem ok_X11_turns : infOK iX11_turns mX11_turns RX11 0 0 := ⟨kkX11_turns, fTX11_ok, pTX11_ok _, cTX11_ok, lTX11_ok, sTX11_ok, c_nil⟩
theorem mt_X11_turns : mtOK [] RX11 0 0 := mt_nil
abbrev V_X11_turns (R : Mem → Option AV → Prop) (pc : Nat) (lc : List (Nat × AV)) (μ : Mem) : Prop := VM mX11_turns RX11 0 0 R pc lc [] μ
set_option maxRecDepth 20000 in
theorem vc_X11_turns_0 {R : Mem → Option AV → Prop} {μ : Mem} (H : V_X11_turns R 9 [(0, kR 201)] (updm μ 201 27 (-(μ 201 27)))) : V_X11_turns R 0 [(0, kR 201)] μ := by
  refine vm_step2 mt_X11_turns ok_X11_turns [(9, [0]), (18, [0]), (20, [0, 1]), (41, [0, 1]), (54, [0, 1])] 1000 ?_
  show isC 201 11 ∧ isC 201 11 ∧ 1 = 1 ∧ True ∧ V_X11_turns R 9 [(0, kR 201)] (updm μ 201 27 (-(μ 201 27)))
  exact ⟨c_201, ⟨c_201, rfl, trivial, H⟩⟩
set_option maxRecDepth 20000 in
theorem vc_X11_turns_9 {R : Mem → Option AV → Prop} {μ : Mem} (H : V_X11_turns R 18 [(0, kR 201)] (updm μ 201 28 (-(μ 201 28)))) : V_X11_turns R 9 [(0, kR 201)] μ := by
  refine vm_step2 mt_X11_turns ok_X11_turns [(9, [0]), (18, [0]), (20, [0, 1]), (41, [0, 1]), (54, [0, 1])] 1000 ?_
  show isC 201 11 ∧ isC 201 11 ∧ 1 = 1 ∧ True ∧ V_X11_turns R 18 [(0, kR 201)] (updm μ 201 28 (-(μ 201 28)))
  exact ⟨c_201, ⟨c_201, rfl, trivial, H⟩⟩
set_option maxRecDepth 20000 in
theorem vc_X11_turns_18 {R : Mem → Option AV → Prop} {μ : Mem} (H : V_X11_turns R 20 [(0, kR 201), (1, kI 0)] μ) : V_X11_turns R 18 [(0, kR 201)] μ := by
  refine vm_step2 mt_X11_turns ok_X11_turns [(9, [0]), (18, [0]), (20, [0, 1]), (41, [0, 1]), (54, [0, 1])] 1000 ?_
  show V_X11_turns R 20 [(0, kR 201), (1, kI 0)] μ
  exact H
set_option maxRecDepth 20000 in
theorem vc_X11_turns_20 {R : Mem → Option AV → Prop} {i : Int} {μ : Mem} (H : r32 i ∧ r32 (μ 201 22) ∧ (((μ 201 22) ≤ i) → R μ none) ∧ (¬ ((μ 201 22) ≤ i) → (0 ≤ i ∧ i < 4) ∧ (0 ≤ i ∧ i < 4) ∧ V_X11_turns R 41 [(0, kR 201), (1, kI i)] (updm μ 213 i (-(μ 213 i))))) : V_X11_turns R 20 [(0, kR 201), (1, kI i)] μ := by
  refine vm_step2 mt_X11_turns ok_X11_turns [(9, [0]), (18, [0]), (20, [0, 1]), (41, [0, 1]), (54, [0, 1])] 1000 ?_
  show isC 201 11 ∧ (r32 i ∧ r32 (μ 201 22)) ∧ (((μ 201 22) ≤ i) → R μ none) ∧ (¬ ((μ 201 22) ≤ i) → isC 201 11 ∧ isC 201 11 ∧ inA 213 1 i ∧ inA 213 1 i ∧ V_X11_turns R 41 [(0, kR 201), (1, kI i)] (updm μ 213 i (-(μ 213 i))))
  exact ⟨c_201, ⟨⟨H.1, H.2.1⟩, fun hc1 => (H.2.2.1 hc1), fun hc1 => ⟨c_201, ⟨c_201, ⟨isArr.in a_213 (H.2.2.2 hc1).1.1 (H.2.2.2 hc1).1.2, ⟨isArr.in a_213 (H.2.2.2 hc1).2.1.1 (H.2.2.2 hc1).2.1.2, (H.2.2.2 hc1).2.2⟩⟩⟩⟩⟩⟩
set_option maxRecDepth 20000 in
theorem vc_X11_turns_41 {R : Mem → Option AV → Prop} {i : Int} {μ : Mem} (H : (0 ≤ i ∧ i < 4) ∧ (0 ≤ i ∧ i < 4) ∧ V_X11_turns R 54 [(0, kR 201), (1, kI i)] (updm μ 214 i (-(μ 214 i)))) : V_X11_turns R 41 [(0, kR 201), (1, kI i)] μ := by
  refine vm_step2 mt_X11_turns ok_X11_turns [(9, [0]), (18, [0]), (20, [0, 1]), (41, [0, 1]), (54, [0, 1])] 1000 ?_
  show isC 201 11 ∧ isC 201 11 ∧ inA 214 1 i ∧ inA 214 1 i ∧ V_X11_turns R 54 [(0, kR 201), (1, kI i)] (updm μ 214 i (-(μ 214 i)))
  exact ⟨c_201, ⟨c_201, ⟨isArr.in a_214 H.1.1 H.1.2, ⟨isArr.in a_214 H.2.1.1 H.2.1.2, H.2.2⟩⟩⟩⟩
set_option maxRecDepth 20000 in
theorem vc_X11_turns_54 {R : Mem → Option AV → Prop} {i : Int} {μ : Mem} (H : V_X11_turns R 20 [(0, kR 201), (1, kI (i + 1))] μ) : V_X11_turns R 54 [(0, kR 201), (1, kI i)] μ := by
  refine vm_step2 mt_X11_turns ok_X11_turns [(9, [0]), (18, [0]), (20, [0, 1]), (41, [0, 1]), (54, [0, 1])] 1000 ?_
  show V_X11_turns R 20 [(0, kR 201), (1, kI (i + 1))] μ
  exact H
theorem body_X11_turns {o : Int} {μ : Mem} {R : Mem → Option AV → Prop} (h : P_X11_turns o μ) (hR : ∀ μ' : Mem, Q_X11_turns o μ μ' → R μ' none) : V_X11_turns R 0 [(0, kR o)] μ := by
  obtain ⟨rfl, hk⟩ := h
  have key := up_ind (P := fun i => ∀ m : Mem, m 201 27 = -(μ 201 27) → m 201 28 = -(μ 201 28) → (∀ f : Int, f ≠ 27 → f ≠ 28 → m 201 f = μ 201 f) → (∀ z : Int, z ≠ 201 → z ≠ 213 → z ≠ 214 → m z = μ z) → (∀ j : Int, 0 ≤ j → j < i → m 213 j = -(μ 213 j) ∧ m 214 j = -(μ 214 j)) → (∀ j : Int, i ≤ j → m 213 j = μ 213 j ∧ m 214 j = μ 214 j) → V_X11_turns R 20 [(0, kR 201), (1, kI i)] m) (lo := 0) (hi := μ 201 22) ?_ ?_
  · refine vc_X11_turns_0 (vc_X11_turns_9 (vc_X11_turns_18 (key 0 (by omega) hk.1 _ ?_ ?_ ?_ ?_ (fun j j0 j1 => absurd j0 (by omega)) ?_)))
    · rw [ru_eq, r1_ne (by omega), ru_eq, r1_eq]
    · rw [ru_eq, r1_eq, ru_eq, r1_ne (by omega)]
    · exact fun f a b => by rw [ru_eq, r1_ne b, ru_eq, r1_ne a]
    · exact fun z a _ _ => by rw [ru_ne a, ru_ne a]
    · exact fun j _ => ⟨by rw [ru_ne (by omega), ru_ne (by omega)], by rw [ru_ne (by omega), ru_ne (by omega)]⟩
  · intro i i0 i1 ih m h27 h28 hf hz hd hu
    refine vc_X11_turns_20 ?_
    rw [hf 22 (by omega) (by omega)]
    have u := hu i (Int.le_refl _)
    refine ⟨rr (by omega), rr (by omega), fun c => absurd c (by omega), fun _ => ⟨by omega, by omega, vc_X11_turns_41 ⟨by omega, by omega, vc_X11_turns_54 (ih _ ?_ ?_ ?_ ?_ ?_ ?_)⟩⟩⟩
    · rw [ru_ne (by omega), ru_ne (by omega)]; exact h27
    · rw [ru_ne (by omega), ru_ne (by omega)]; exact h28
    · exact fun f a b => by rw [ru_ne (by omega), ru_ne (by omega)]; exact hf f a b
    · exact fun z a b c => by rw [ru_ne c, ru_ne b]; exact hz z a b c
    · intro j j0 j1
      rw [ru_ne (show (213 : Int) ≠ 214 by omega), ru_eq, ru_eq]
      by_cases e : j = i
      · rw [e, r1_eq, r1_eq, ru_ne (by omega), u.1, u.2]; exact ⟨rfl, rfl⟩
      · rw [r1_ne e, r1_ne e, ru_ne (by omega)]; exact hd j j0 (by omega)
    · intro j j0
      rw [ru_ne (show (213 : Int) ≠ 214 by omega), ru_eq, ru_eq, r1_ne (by omega), r1_ne (by omega), ru_ne (by omega)]
      exact hu j (by omega)
  · intro m h27 h28 hf hz hd hu
    refine vc_X11_turns_20 ?_
    rw [hf 22 (by omega) (by omega)]
    exact ⟨rr (by omega), rr (by omega), fun _ => hR m ⟨h27, h28, hd, hf, hz⟩, fun c => absurd (Int.le_refl _) c⟩
theorem ct_X11_turns : Ct mX11_turns 0 0 0 0 (nrmS S_X11_turns) := by
  refine ct_vm (own := RX11) (by decide +kernel) rfl ?_ ?_
  · intro as μ Q hS
    unfold S_X11_turns at hS
    split at hS
    · exact Nat.le_of_ble_eq_true rfl
    · exact hS.elim
  · intro as μ R hS
    unfold S_X11_turns at hS
    split at hS
    · exact body_X11_turns hS.1 hS.2
    · exact hS.elim
def P_X11_goesOn (o z n : Int) (μ : Mem) : Prop := o = 201 ∧ (z = 211 ∨ z = 212) ∧ (1 ≤ μ 201 22 ∧ μ 201 22 ≤ 4) ∧ (0 ≤ n ∧ n ≤ 24) ∧ Pk (μ 201 22) n (μ z)
def Q_X11_goesOn (_ z n : Int) (μ μ' : Mem) (r : Int) : Prop := ((r = 1 ∧ Nx (μ 201 22) n (μ z) (μ' z)) ∨ (r = 0 ∧ μ' z = μ z ∧ ∀ j : Int, 0 ≤ j → j < μ 201 22 → n - μ 201 22 + j ≤ μ z j)) ∧ ∀ y : Int, y ≠ z → μ' y = μ y
def S_X11_goesOn : S0t := fun as μ Q => match as with
  | [(2, x0), (2, x1), (0, x2)] => P_X11_goesOn x0 x1 x2 μ ∧ ∀ (μ' : Mem) (r : Int), Q_X11_goesOn x0 x1 x2 μ μ' r → Q μ' (some (kI r))
  | _ => False
theorem mono_X11_goesOn : Mono S_X11_goesOn := by
  intro as μ Q Q' h hS
  unfold S_X11_goesOn at hS ⊢
  split at hS
  · exact ⟨hS.1, fun μ' r q => h _ _ (hS.2 _ _ q)⟩
  · exact hS.elim
def iX11_goesOn : Inf := (kX11_goesOn, fTX11, pTX11, cTX11, lTX11, sTX11, [])
theorem ok_X11_goesOn : infOK iX11_goesOn mX11_goesOn RX11 0 0 := ⟨kkX11_goesOn, fTX11_ok, pTX11_ok _, cTX11_ok, lTX11_ok, sTX11_ok, c_nil⟩
theorem mt_X11_goesOn : mtOK [] RX11 0 0 := mt_nil
abbrev V_X11_goesOn (R : Mem → Option AV → Prop) (pc : Nat) (lc : List (Nat × AV)) (μ : Mem) : Prop := VM mX11_goesOn RX11 0 0 R pc lc [] μ
set_option maxRecDepth 20000 in
theorem vc_X11_goesOn_0 {R : Mem → Option AV → Prop} {n z : Int} {μ : Mem} (hz : isArr z 0 4) (H : V_X11_goesOn R 7 [(0, kR 201), (1, kR z), (2, kI n), (3, kI ((μ 201 22) - 1))] μ) : V_X11_goesOn R 0 [(0, kR 201), (1, kR z), (2, kI n)] μ := by
  refine vm_step2 mt_X11_goesOn ok_X11_goesOn [(7, [0, 1, 2, 3]), (44, [0, 1, 3]), (49, [0, 1, 4]), (70, [0, 1, 4])] 1000 ?_
  show isC 201 11 ∧ V_X11_goesOn R 7 [(0, kR 201), (1, kR z), (2, kI n), (3, kI ((μ 201 22) - 1))] μ
  exact ⟨c_201, H⟩
set_option maxRecDepth 20000 in
theorem vc_X11_goesOn_7 {R : Mem → Option AV → Prop} {n k z : Int} {μ : Mem} (hz : isArr z 0 4) (H : r32 k ∧ ((k < 0) → r32 k ∧ ((0 ≤ k) → (0 ≤ k ∧ k < 4) ∧ (0 ≤ k ∧ k < 4) ∧ V_X11_goesOn R 44 [(0, kR 201), (1, kR z), (3, kI k)] (updm μ z k ((μ z k) + 1))) ∧ (¬ (0 ≤ k) → R μ (some (kI 0)))) ∧ (¬ (k < 0) → (0 ≤ k ∧ k < 4) ∧ r32 (μ z k) ∧ r32 ((n - (μ 201 22)) + k) ∧ ((¬ (μ z k) = ((n - (μ 201 22)) + k)) → r32 k ∧ ((0 ≤ k) → (0 ≤ k ∧ k < 4) ∧ (0 ≤ k ∧ k < 4) ∧ V_X11_goesOn R 44 [(0, kR 201), (1, kR z), (3, kI k)] (updm μ z k ((μ z k) + 1))) ∧ (¬ (0 ≤ k) → R μ (some (kI 0)))) ∧ (¬ (¬ (μ z k) = ((n - (μ 201 22)) + k)) → V_X11_goesOn R 7 [(0, kR 201), (1, kR z), (2, kI n), (3, kI (k + (-1)))] μ))) : V_X11_goesOn R 7 [(0, kR 201), (1, kR z), (2, kI n), (3, kI k)] μ := by
  refine vm_step2 mt_X11_goesOn ok_X11_goesOn [(7, [0, 1, 2, 3]), (44, [0, 1, 3]), (49, [0, 1, 4]), (70, [0, 1, 4])] 1000 ?_
  show r32 k ∧ ((k < 0) → r32 k ∧ ((0 ≤ k) → inA z 0 k ∧ inA z 0 k ∧ V_X11_goesOn R 44 [(0, kR 201), (1, kR z), (3, kI k)] (updm μ z k ((μ z k) + 1))) ∧ (¬ (0 ≤ k) → (0 ≤ (0 : Int) ∧ (0 : Int) ≤ 1) ∧ R μ (some (kI 0)))) ∧ (¬ (k < 0) → inA z 0 k ∧ isC 201 11 ∧ (r32 (μ z k) ∧ r32 ((n - (μ 201 22)) + k)) ∧ ((¬ (μ z k) = ((n - (μ 201 22)) + k)) → r32 k ∧ ((0 ≤ k) → inA z 0 k ∧ inA z 0 k ∧ V_X11_goesOn R 44 [(0, kR 201), (1, kR z), (3, kI k)] (updm μ z k ((μ z k) + 1))) ∧ (¬ (0 ≤ k) → (0 ≤ (0 : Int) ∧ (0 : Int) ≤ 1) ∧ R μ (some (kI 0)))) ∧ (¬ (¬ (μ z k) = ((n - (μ 201 22)) + k)) → V_X11_goesOn R 7 [(0, kR 201), (1, kR z), (2, kI n), (3, kI (k + (-1)))] μ))
  exact ⟨H.1, fun hc4 => ⟨(H.2.1 hc4).1, fun hc1 => ⟨isArr.in hz ((H.2.1 hc4).2.1 hc1).1.1 ((H.2.1 hc4).2.1 hc1).1.2, ⟨isArr.in hz ((H.2.1 hc4).2.1 hc1).2.1.1 ((H.2.1 hc4).2.1 hc1).2.1.2, ((H.2.1 hc4).2.1 hc1).2.2⟩⟩, fun hc1 => ⟨⟨by omega, by omega⟩, ((H.2.1 hc4).2.2 hc1)⟩⟩, fun hc4 => ⟨isArr.in hz (H.2.2 hc4).1.1 (H.2.2 hc4).1.2, ⟨c_201, ⟨⟨(H.2.2 hc4).2.1, (H.2.2 hc4).2.2.1⟩, fun hc3 => ⟨((H.2.2 hc4).2.2.2.1 hc3).1, fun hc2 => ⟨isArr.in hz (((H.2.2 hc4).2.2.2.1 hc3).2.1 hc2).1.1 (((H.2.2 hc4).2.2.2.1 hc3).2.1 hc2).1.2, ⟨isArr.in hz (((H.2.2 hc4).2.2.2.1 hc3).2.1 hc2).2.1.1 (((H.2.2 hc4).2.2.2.1 hc3).2.1 hc2).2.1.2, (((H.2.2 hc4).2.2.2.1 hc3).2.1 hc2).2.2⟩⟩, fun hc2 => ⟨⟨by omega, by omega⟩, (((H.2.2 hc4).2.2.2.1 hc3).2.2 hc2)⟩⟩, fun hc3 => ((H.2.2 hc4).2.2.2.2 hc3)⟩⟩⟩⟩
set_option maxRecDepth 20000 in
theorem vc_X11_goesOn_44 {R : Mem → Option AV → Prop} {k z : Int} {μ : Mem} (hz : isArr z 0 4) (H : V_X11_goesOn R 49 [(0, kR 201), (1, kR z), (4, kI (k + 1))] μ) : V_X11_goesOn R 44 [(0, kR 201), (1, kR z), (3, kI k)] μ := by
  refine vm_step2 mt_X11_goesOn ok_X11_goesOn [(7, [0, 1, 2, 3]), (44, [0, 1, 3]), (49, [0, 1, 4]), (70, [0, 1, 4])] 1000 ?_
  show V_X11_goesOn R 49 [(0, kR 201), (1, kR z), (4, kI (k + 1))] μ
  exact H
set_option maxRecDepth 20000 in
theorem vc_X11_goesOn_49 {R : Mem → Option AV → Prop} {j z : Int} {μ : Mem} (hz : isArr z 0 4) (H : r32 j ∧ r32 (μ 201 22) ∧ (((μ 201 22) ≤ j) → R μ (some (kI 1))) ∧ (¬ ((μ 201 22) ≤ j) → (0 ≤ (j - 1) ∧ (j - 1) < 4) ∧ (0 ≤ j ∧ j < 4) ∧ V_X11_goesOn R 70 [(0, kR 201), (1, kR z), (4, kI j)] (updm μ z j ((μ z (j - 1)) + 1)))) : V_X11_goesOn R 49 [(0, kR 201), (1, kR z), (4, kI j)] μ := by
  refine vm_step2 mt_X11_goesOn ok_X11_goesOn [(7, [0, 1, 2, 3]), (44, [0, 1, 3]), (49, [0, 1, 4]), (70, [0, 1, 4])] 1000 ?_
  show isC 201 11 ∧ (r32 j ∧ r32 (μ 201 22)) ∧ (((μ 201 22) ≤ j) → (0 ≤ (1 : Int) ∧ (1 : Int) ≤ 1) ∧ R μ (some (kI 1))) ∧ (¬ ((μ 201 22) ≤ j) → inA z 0 (j - 1) ∧ inA z 0 j ∧ V_X11_goesOn R 70 [(0, kR 201), (1, kR z), (4, kI j)] (updm μ z j ((μ z (j - 1)) + 1)))
  exact ⟨c_201, ⟨⟨H.1, H.2.1⟩, fun hc5 => ⟨⟨by omega, by omega⟩, (H.2.2.1 hc5)⟩, fun hc5 => ⟨isArr.in hz (H.2.2.2 hc5).1.1 (H.2.2.2 hc5).1.2, ⟨isArr.in hz (H.2.2.2 hc5).2.1.1 (H.2.2.2 hc5).2.1.2, (H.2.2.2 hc5).2.2⟩⟩⟩⟩
set_option maxRecDepth 20000 in
theorem vc_X11_goesOn_70 {R : Mem → Option AV → Prop} {j z : Int} {μ : Mem} (hz : isArr z 0 4) (H : V_X11_goesOn R 49 [(0, kR 201), (1, kR z), (4, kI (j + 1))] μ) : V_X11_goesOn R 70 [(0, kR 201), (1, kR z), (4, kI j)] μ := by
  refine vm_step2 mt_X11_goesOn ok_X11_goesOn [(7, [0, 1, 2, 3]), (44, [0, 1, 3]), (49, [0, 1, 4]), (70, [0, 1, 4])] 1000 ?_
  show V_X11_goesOn R 49 [(0, kR 201), (1, kR z), (4, kI (j + 1))] μ
  exact H
theorem body_X11_goesOn {o z n : Int} {μ : Mem} {R : Mem → Option AV → Prop} (h : P_X11_goesOn o z n μ) (hR : ∀ (μ' : Mem) (r : Int), Q_X11_goesOn o z n μ μ' r → R μ' (some (kI r))) : V_X11_goesOn R 0 [(0, kR o), (1, kR z), (2, kI n)] μ := by
  obtain ⟨rfl, hz2, hk, hn, hp⟩ := h
  have hz : isArr z 0 4 := by rcases hz2 with e | e <;> subst e <;> first | exact a_211 | exact a_212
  unfold Q_X11_goesOn at hR
  obtain ⟨k, hke⟩ : ∃ k : Int, k = μ 201 22 := ⟨_, rfl⟩
  rw [← hke] at hk hp hR
  have key : ∀ i : Int, -1 ≤ i → i ≤ k - 1 → (∀ j : Int, i < j → j < k → n - k + j ≤ μ z j) → V_X11_goesOn R 7 [(0, kR 201), (1, kR z), (2, kI n), (3, kI i)] μ := by
    refine dn_ind (P := fun i => (∀ j : Int, i < j → j < k → n - k + j ≤ μ z j) → V_X11_goesOn R 7 [(0, kR 201), (1, kR z), (2, kI n), (3, kI i)] μ) ?_ ?_
    · intro i i0 i1 ih hq
      have hi := Pk_at hp hk.2 (show 0 ≤ i by omega) (by omega)
      have go : μ z i ≠ n - k + i → V_X11_goesOn R 44 [(0, kR 201), (1, kR z), (3, kI i)] (updm μ z i (μ z i + 1)) := fun c => by
        have kb : ∀ j : Int, i + 1 ≤ j → j ≤ k → ∀ m : Mem, (∀ y : Int, y ≠ z → m y = μ y) → (∀ j' : Int, 0 ≤ j' → j' < i → m z j' = μ z j') → (∀ j' : Int, i ≤ j' → j' < j → m z j' = μ z i + 1 + (j' - i)) → V_X11_goesOn R 49 [(0, kR 201), (1, kR z), (4, kI j)] m := by
          refine up_ind (P := fun j => ∀ m : Mem, (∀ y : Int, y ≠ z → m y = μ y) → (∀ j' : Int, 0 ≤ j' → j' < i → m z j' = μ z j') → (∀ j' : Int, i ≤ j' → j' < j → m z j' = μ z i + 1 + (j' - i)) → V_X11_goesOn R 49 [(0, kR 201), (1, kR z), (4, kI j)] m) ?_ ?_
          · intro j j0 j1 ihj m hf ha hb
            have hl := hb (j - 1) (by omega) (by omega)
            refine vc_X11_goesOn_49 hz ?_
            rw [hf 201 (by omega), ← hke]
            refine ⟨rr (by omega), rr (by omega), fun c => absurd c (by omega), fun _ => ⟨by omega, by omega, vc_X11_goesOn_70 hz (ihj _ (fun y hy => by rw [ru_ne hy]; exact hf y hy) (fun j' x0 x1 => ?_) (fun j' x0 x1 => ?_))⟩⟩
            · rw [ru_eq, r1_ne (by omega)]; exact ha j' x0 x1
            · rw [ru_eq]
              by_cases e : j' = j
              · rw [e, r1_eq, hl]; omega
              · rw [r1_ne e]; exact hb j' x0 (by omega)
          · intro m hf ha hb
            refine vc_X11_goesOn_49 hz ?_
            rw [hf 201 (by omega), ← hke]
            exact ⟨rr (by omega), rr (by omega), fun _ => hR m 1 ⟨Or.inl ⟨rfl, i, by omega, by omega, hq, ha, hb⟩, hf⟩, fun c => absurd (Int.le_refl _) c⟩
        refine vc_X11_goesOn_44 hz (kb (i + 1) (Int.le_refl _) (by omega) _ (fun y hy => by rw [ru_ne hy]) (fun j' x0 x1 => by rw [ru_eq, r1_ne (by omega)]) (fun j' x0 x1 => ?_))
        have e : j' = i := by omega
        rw [e, ru_eq, r1_eq]; omega
      refine vc_X11_goesOn_7 hz ?_
      rw [← hke]
      refine ⟨rr (by omega), fun c => absurd c (by omega), fun _ => ⟨by omega, rr (by omega), rr (by omega), fun c => ⟨rr (by omega), fun _ => ⟨by omega, by omega, go c⟩, fun d => absurd (by omega) d⟩, fun c => ?_⟩⟩
      refine ih (fun j j0 j1 => ?_)
      by_cases e : j = i
      · rw [e]; omega
      · exact hq j (by omega) j1
    · intro hq
      refine vc_X11_goesOn_7 hz ⟨rr (by omega), fun _ => ⟨rr (by omega), fun c => absurd c (by omega), fun _ => hR μ 0 ⟨Or.inr ⟨rfl, rfl, fun j j0 j1 => hq j (by omega) j1⟩, fun _ _ => rfl⟩⟩, fun c => absurd (show (-1 : Int) < 0 by omega) c⟩
  refine vc_X11_goesOn_0 hz ?_
  rw [← hke]
  exact key (k - 1) (by omega) (Int.le_refl _) (fun j j0 j1 => absurd j1 (by omega))
theorem ct_X11_goesOn : Ct mX11_goesOn 0 0 0 0 (nrmS S_X11_goesOn) := by
  refine ct_vm (own := RX11) (by decide +kernel) rfl ?_ ?_
  · intro as μ Q hS
    unfold S_X11_goesOn at hS
    split at hS
    · exact Nat.le_of_ble_eq_true rfl
    · exact hS.elim
  · intro as μ R hS
    unfold S_X11_goesOn at hS
    split at hS
    · exact body_X11_goesOn hS.1 hS.2
    · exact hS.elim
def P_X11_first (o z : Int) (μ : Mem) : Prop := o = 201 ∧ (z = 211 ∨ z = 212) ∧ (0 ≤ μ 201 22 ∧ μ 201 22 ≤ 4)
def Q_X11_first (_ z : Int) (μ μ' : Mem) : Prop := (∀ i : Int, 0 ≤ i → i < μ 201 22 → μ' z i = i) ∧ ∀ y : Int, y ≠ z → μ' y = μ y
def S_X11_first : S0t := fun as μ Q => match as with
  | [(2, x0), (2, x1)] => P_X11_first x0 x1 μ ∧ ∀ (μ' : Mem) , Q_X11_first x0 x1 μ μ'  → Q μ' none
  | _ => False
theorem mono_X11_first : Mono S_X11_first := by
  intro as μ Q Q' h hS
  unfold S_X11_first at hS ⊢
  split at hS
  · exact ⟨hS.1, fun μ' q => h _ _ (hS.2 _ q)⟩
  · exact hS.elim
def iX11_first : Inf := (kX11_first, fTX11, pTX11, cTX11, lTX11, sTX11, [])
theorem ok_X11_first : infOK iX11_first mX11_first RX11 0 0 := ⟨kkX11_first, fTX11_ok, pTX11_ok _, cTX11_ok, lTX11_ok, sTX11_ok, c_nil⟩
theorem mt_X11_first : mtOK [] RX11 0 0 := mt_nil
abbrev V_X11_first (R : Mem → Option AV → Prop) (pc : Nat) (lc : List (Nat × AV)) (μ : Mem) : Prop := VM mX11_first RX11 0 0 R pc lc [] μ
set_option maxRecDepth 20000 in
theorem vc_X11_first_0 {R : Mem → Option AV → Prop} {z : Int} {μ : Mem} (hz : isArr z 0 4) (H : V_X11_first R 2 [(0, kR 201), (1, kR z), (2, kI 0)] μ) : V_X11_first R 0 [(0, kR 201), (1, kR z)] μ := by
  refine vm_step2 mt_X11_first ok_X11_first [(2, [0, 1, 2])] 1000 ?_
  show V_X11_first R 2 [(0, kR 201), (1, kR z), (2, kI 0)] μ
  exact H
set_option maxRecDepth 20000 in
theorem vc_X11_first_2 {R : Mem → Option AV → Prop} {k z : Int} {μ : Mem} (hz : isArr z 0 4) (H : r32 k ∧ r32 (μ 201 22) ∧ (((μ 201 22) ≤ k) → R μ none) ∧ (¬ ((μ 201 22) ≤ k) → (0 ≤ k ∧ k < 4) ∧ V_X11_first R 2 [(0, kR 201), (1, kR z), (2, kI (k + 1))] (updm μ z k k))) : V_X11_first R 2 [(0, kR 201), (1, kR z), (2, kI k)] μ := by
  refine vm_step2 mt_X11_first ok_X11_first [(2, [0, 1, 2])] 1000 ?_
  show isC 201 11 ∧ (r32 k ∧ r32 (μ 201 22)) ∧ (((μ 201 22) ≤ k) → R μ none) ∧ (¬ ((μ 201 22) ≤ k) → inA z 0 k ∧ V_X11_first R 2 [(0, kR 201), (1, kR z), (2, kI (k + 1))] (updm μ z k k))
  exact ⟨c_201, ⟨⟨H.1, H.2.1⟩, fun hc1 => (H.2.2.1 hc1), fun hc1 => ⟨isArr.in hz (H.2.2.2 hc1).1.1 (H.2.2.2 hc1).1.2, (H.2.2.2 hc1).2⟩⟩⟩
theorem body_X11_first {o z : Int} {μ : Mem} {R : Mem → Option AV → Prop} (h : P_X11_first o z μ) (hR : ∀ μ' : Mem, Q_X11_first o z μ μ' → R μ' none) : V_X11_first R 0 [(0, kR o), (1, kR z)] μ := by
  obtain ⟨rfl, hz2, hk⟩ := h
  have hz : isArr z 0 4 := by rcases hz2 with e | e <;> subst e <;> first | exact a_211 | exact a_212
  have key := up_ind (P := fun i => ∀ m : Mem, (∀ y : Int, y ≠ z → m y = μ y) → (∀ j : Int, 0 ≤ j → j < i → m z j = j) → V_X11_first R 2 [(0, kR 201), (1, kR z), (2, kI i)] m) (lo := 0) (hi := μ 201 22) ?_ ?_
  · exact vc_X11_first_0 hz (key 0 (by omega) hk.1 μ (fun _ _ => rfl) (fun j j0 j1 => absurd j0 (by omega)))
  · intro i i0 i1 ih m hf hd
    refine vc_X11_first_2 hz ?_
    rw [hf 201 (by omega)]
    refine ⟨rr (by omega), rr (by omega), fun c => absurd c (by omega), fun _ => ⟨by omega, ih _ (fun y hy => by rw [ru_ne hy, hf y hy]) (fun j j0 j1 => ?_)⟩⟩
    rw [ru_eq]
    by_cases e : j = i
    · rw [e, r1_eq]
    · rw [r1_ne e]; exact hd j j0 (by omega)
  · intro m hf hd
    refine vc_X11_first_2 hz ?_
    rw [hf 201 (by omega)]
    exact ⟨rr (by omega), rr (by omega), fun _ => hR m ⟨hd, hf⟩, fun c => absurd (Int.le_refl _) c⟩
theorem ct_X11_first : Ct mX11_first 0 0 0 0 (nrmS S_X11_first) := by
  refine ct_vm (own := RX11) (by decide +kernel) rfl ?_ ?_
  · intro as μ Q hS
    unfold S_X11_first at hS
    split at hS
    · exact Nat.le_of_ble_eq_true rfl
    · exact hS.elim
  · intro as μ R hS
    unfold S_X11_first at hS
    split at hS
    · exact body_X11_first hS.1 hS.2
    · exact hS.elim
