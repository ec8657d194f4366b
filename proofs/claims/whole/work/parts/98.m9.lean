/-! the model: till a bell -/
theorem fold_tail {α : Type} {f : α → Int → α} {x : α} {n m : Int} (n0 : 0 ≤ n) (nm : n ≤ m) (h : ∀ i : Int, n ≤ i → i < m → ∀ y, f y i = y) : fold f x m = fold f x n := by
  refine up_ind (P := fun i => fold f x i = fold f x n → fold f x m = fold f x n) (lo := n) (hi := m) (fun i i0 i1 ih e => ih ?_) (fun e => e) n (Int.le_refl n) nm rfl
  rw [fold_s (by omega), h i i0 i1, e]
/-- a fold over the sets of a goal, by their numbers -/
theorem fold_ex {α : Type} {f : α → Int → α} {x : α} {s : Int} (s0 : 0 ≤ s) (s1 : s < 256) (h : ∀ b : Int, 0 ≤ b → b ≤ s → ¬ subS b s → ∀ y, f y b = y) : fold f x (s + 1) = fold (fun y t => f y (exS s t)) x ((2 ^ (popc s).toNat : Nat) : Int) := by
  have pb := popc_bd (s := s)
  have p1 := pw2_le pb.1 pb.2
  have eall := ex_all s0 s1
  obtain ⟨N, hN⟩ : ∃ N : Int, N = ((2 ^ (popc s).toNat : Nat) : Int) := ⟨_, rfl⟩
  rw [← hN] at p1 eall ⊢
  have gap : ∀ t b : Int, 0 ≤ t → t + 1 < N → exS s t < b → b < exS s (t + 1) → ¬ subS b s := fun t b t0 t1 b0 b1 hb => by
    have eb := ex_bd (s := s) (t := t)
    have eb' := ex_bd (s := s) (t := t + 1)
    have cb := co_bd (s := s) (b := b)
    have ce := co_ex (s := s) (b := b) (by omega) (by omega) hb
    rw [← hN] at cb
    rcases (by omega : coS s b ≤ t ∨ t + 1 ≤ coS s b) with q | q
    · by_cases e : coS s b = t
      · rw [e] at ce; omega
      · have := ex_mono (s := s) (t := coS s b) (t' := t) cb.1 (by omega) (by omega)
        omega
    · by_cases e : coS s b = t + 1
      · rw [e] at ce; omega
      · have := ex_mono (s := s) (t := t + 1) (t' := coS s b) (by omega) (by omega) (by omega)
        omega
  have key : ∀ t : Int, 0 ≤ t → t < N → fold f x (exS s t) = fold (fun y t => f y (exS s t)) x t := by
    refine nat_ind (P := fun t => t < N → fold f x (exS s t) = fold (fun y t => f y (exS s t)) x t) (fun _ => by rw [ex_0]; rfl) (fun t t0 ih ht => ?_)
    have m := ex_mono (s := s) (t := t) (t' := t + 1) t0 (by omega) (by omega)
    have eb := ex_bd (s := s) (t := t)
    have eb' := ex_bd (s := s) (t := t + 1)
    have hle := sub_le eb'.1 eb'.2 s0 s1 (ex_sub (s := s) (t := t + 1))
    rw [fold_tail (n := exS s t + 1) (m := exS s (t + 1)) (by omega) (by omega) (fun i i0 i1 y => h i (by omega) (by omega) (gap t i t0 (by omega) (by omega) i1) y), fold_s eb.1, fold_s t0, ih (by omega)]
  have last := key (N - 1) (by omega) (by omega)
  rw [eall] at last
  rw [fold_s s0, last]
  have e : N = (N - 1) + 1 := by omega
  rw [e, fold_s (by omega), ← e, eall]
def celM (μ : Mem) : Int := cellV (vm μ)
def CB (μ : Mem) : Prop := μ 201 43 = popc (celM μ) ∧ ∀ k : Int, 0 ≤ k → k < popc (celM μ) → μ 227 k = mthV (celM μ) k
def BK (μ : Mem) : Prop := MB μ ∧ CB μ ∧ Holds2 μ 206 (vm μ 0 0) (wayV (vm μ))
def plB (μ : Mem) (fm : Int) : Int := if fm = 8 then 0 else mthV (celM μ) fm
theorem BK.f {μ : Mem} (h : BK μ) : TVok (vm μ) ∧ (2 ≤ vm μ 0 0 ∧ vm μ 0 0 ≤ 8) ∧ (0 ≤ popc (celM μ) ∧ popc (celM μ) ≤ 8) ∧ (0 ≤ celM μ ∧ celM μ < 256) ∧ (∀ a : Int, 0 ≤ a → a < 8 → hasB (celM μ) a = true → a < vm μ 0 0) ∧ (∀ k : Int, 0 ≤ k → k < popc (celM μ) → (0 ≤ mthV (celM μ) k ∧ mthV (celM μ) k < vm μ 0 0) ∧ hasB (celM μ) (mthV (celM μ) k) = true) ∧ (∀ fm : Int, (fm = 8 ∨ (0 ≤ fm ∧ fm < popc (celM μ))) → 0 ≤ plB μ fm ∧ plB μ fm < vm μ 0 0) := by
  have ok := h.1.v
  have pb := popc_bd (s := celM μ)
  have hm : ∀ k : Int, 0 ≤ k → k < popc (celM μ) → (0 ≤ mthV (celM μ) k ∧ mthV (celM μ) k < vm μ 0 0) ∧ hasB (celM μ) (mthV (celM μ) k) = true := fun k k0 k1 => by
    have hm := mth_in k0 k1
    exact ⟨⟨hm.1.1, cell_in ok _ hm.1.1 hm.1.2 hm.2⟩, hm.2⟩
  refine ⟨ok, ok.1, pb, cell_bd ok, cell_in ok, hm, fun fm hf => ?_⟩
  have := ok.1
  unfold plB
  by_cases c : fm = 8
  · rw [if_pos c]; omega
  · rw [if_neg c]; exact (hm fm (by omega) (by omega)).1
theorem dig_rem {v : TV} {x a : Int} (hp : v 0 0 ≤ 8) (a0 : 0 ≤ a) (a1 : a < v 0 0) (h : hasB x a = true) : digV v x = digV v (remS x a) + v 6 a := by
  unfold digV
  refine sm_upd (b := a) a0 a1 (fun i i0 i1 q => ?_) ?_
  · show (if hasB x i = true then v 6 i else 0) = if hasB (remS x a) i = true then v 6 i else 0
    rw [has_rem a0 i0, decide_eq_true q, Bool.and_true]
  · show (if hasB x a = true then v 6 a else 0) = (if hasB (remS x a) a = true then v 6 a else 0) + v 6 a
    rw [has_rem a0 a0, decide_eq_false (fun q => q rfl), Bool.and_false, if_pos h, if_neg (by decide), Int.zero_add]
theorem dig_bd {v : TV} (ok : TVok v) (x : Int) : 0 ≤ digV v x ∧ digV v x ≤ 792 := by
  have hp := ok.1
  have := sm_bd (f := fun a => if hasB x a = true then v 6 a else 0) (n := v 0 0) (c := 0) (d := 99) (fun a a0 a1 => by
    have := (ok.2.2.2.1 a a0 (by omega)).2.2
    show 0 ≤ (if hasB x a = true then v 6 a else 0) ∧ (if hasB x a = true then v 6 a else 0) ≤ 99
    split <;> omega) (by omega)
  unfold digV
  omega
theorem dig_0 {v : TV} (hp : 0 ≤ v 0 0) : digV v 0 = 0 := by
  have e : digV v 0 = sm (fun _ => 0) (v 0 0) := sm_congr fun i _ _ => by
    show (if hasB 0 i = true then v 6 i else 0) = 0
    rw [has_0, if_neg (by decide)]
  rw [e, sm_zero hp]
theorem smell_0 {v : TV} (hp : 0 ≤ v 0 0) : smellV v 0 = 0 := by
  have e : smellV v 0 = sm (fun _ => 0) (v 0 0) := sm_congr fun i _ _ => by
    show (if hasB 0 i = true then v 4 i * v 5 i else 0) = 0
    rw [has_0, if_neg (by decide)]
  rw [e, sm_zero hp]
theorem one_bd {v : TV} (h : VOk v) {fm x : Int} (x0 : 0 ≤ x) (x1 : x < 256) (f0 : 0 ≤ fm) (f1 : fm < v 0 0) : 0 ≤ rcV (wayV v) oneV (v 0 0) fm x ∧ rcV (wayV v) oneV (v 0 0) fm x ≤ 1120 := by
  have hp := h.1.1
  have := rcV_bd (W := wayV v) (r := oneV) (n := v 0 0) (B := 1) (by omega) (by omega) (by omega) (fun a b a0 a1 b0 b1 => way_ok h a0 a1 b0 b1) (fun s _ _ => by show 0 ≤ (1 : Int) ∧ (1 : Int) ≤ 1; omega) x.toNat fm x x0 x1 (by omega) ⟨f0, f1⟩
  have pb := popc_bd (s := x)
  have : popc x * (140 * 1) ≤ 8 * (140 * 1) := Int.mul_le_mul_of_nonneg_right pb.2 (by omega)
  omega
/-- what the rings leave -/
def rsM (v : TV) (s fm t : Int) : Int := rcV (wayV v) oneV (v 0 0) fm (exS s t) + digV v (exS s t)
def LSb (μ : Mem) : Prop := ∀ t fm : Int, 0 ≤ t → t < ((2 ^ (popc (celM μ)).toNat : Nat) : Int) → (fm = 8 ∨ (0 ≤ fm ∧ fm < popc (celM μ))) → μ 228 (9 * t + fm) = rsM (vm μ) (celM μ) (plB μ fm) t
theorem rs_bd {v : TV} (h : VOk v) {s fm t : Int} (f0 : 0 ≤ fm) (f1 : fm < v 0 0) : 0 ≤ rsM v s fm t ∧ rsM v s fm t ≤ 2000 := by
  have a := one_bd h (fm := fm) (x := exS s t) ex_bd.1 ex_bd.2 f0 f1
  have b := dig_bd h.1 (exS s t)
  unfold rsM
  omega
/-- one step of a ring, by the list -/
def bG (v : TV) (s fm t k : Int) : Int := wayV v fm (mthV s k) * oneV (exS s t) + rcV (wayV v) oneV (v 0 0) (mthV s k) (exS s (remS t k))
theorem bG_step {v : TV} {s fm t k : Int} (hp : v 0 0 ≤ 8) (hs : ∀ a : Int, 0 ≤ a → a < 8 → hasB s a = true → a < v 0 0) (k0 : 0 ≤ k) (k1 : k < popc s) (hb : hasB t k = true) : wayV v fm (mthV s k) + v 6 (mthV s k) + rsM v s (mthV s k) (remS t k) = bG v s fm t k + digV v (exS s t) := by
  have hm := mth_in k0 k1
  have e := dig_rem (v := v) (x := exS s t) (a := mthV s k) hp hm.1.1 (hs _ hm.1.1 hm.1.2 hm.2) (by rw [ex_mth k0 k1]; exact hb)
  unfold bG rsM
  rw [ex_rem k0 k1, e, show oneV (exS s t) = 1 from rfl, Int.mul_one]
  omega
theorem bG_bd {v : TV} (h : VOk v) {s fm t k : Int} (hs : ∀ a : Int, 0 ≤ a → a < 8 → hasB s a = true → a < v 0 0) (f0 : 0 ≤ fm) (f1 : fm < v 0 0) (k0 : 0 ≤ k) (k1 : k < popc s) : 0 ≤ bG v s fm t k ∧ bG v s fm t k ≤ 1260 := by
  have hm := mth_in k0 k1
  have hn := hs _ hm.1.1 hm.1.2 hm.2
  have a := way_ok h f0 f1 hm.1.1 hn
  have b := one_bd h (fm := mthV s k) (x := exS s (remS t k)) ex_bd.1 ex_bd.2 hm.1.1 hn
  unfold bG
  rw [show oneV (exS s t) = 1 from rfl, Int.mul_one]
  omega
theorem BK_frame {μ m : Mem} (h : BK μ) (h201 : ∀ f : Int, (f = 12 ∨ f = 13 ∨ f = 43) → m 201 f = μ 201 f) (h2 : m 202 = μ 202) (h6 : m 206 = μ 206) (h7 : m 227 = μ 227) : BK m ∧ vm m = vm μ ∧ celM m = celM μ ∧ (∀ fm, plB m fm = plB μ fm) := by
  obtain ⟨mb, ev⟩ := MB_frame h.1 h2 (h201 12 (by omega)) (h201 13 (by omega))
  have ea : celM m = celM μ := by unfold celM; rw [ev]
  refine ⟨⟨mb, ?_, ?_⟩, ev, ea, fun fm => by unfold plB; rw [ea]⟩
  · have := h.2.1
    unfold CB at *
    rw [ea, h201 43 (by omega), h7]
    exact this
  · rw [ev]
    intro a b a0 a1 b0 b1
    rw [h6]
    exact h.2.2 a b a0 a1 b0 b1
def P_X11_stepTo (o fm to : Int) (μ : Mem) : Prop := o = 201 ∧ BK μ ∧ (fm = 8 ∨ (0 ≤ fm ∧ fm < popc (celM μ))) ∧ 0 ≤ to ∧ to < popc (celM μ)
def F_X11_stepTo (_ fm to : Int) (μ : Mem) : Int := wayV (vm μ) (plB μ fm) (mthV (celM μ) to) + vm μ 6 (mthV (celM μ) to)
def S_X11_stepTo : S0t := fun as μ Q => match as with
  | [(2, x0), (0, x1), (0, x2)] => P_X11_stepTo x0 x1 x2 μ ∧ Q μ (some (kI (F_X11_stepTo x0 x1 x2 μ)))
  | _ => False
theorem mono_X11_stepTo : Mono S_X11_stepTo := by
  intro as μ Q Q' h hS
  unfold S_X11_stepTo at hS ⊢
  split at hS
  · exact ⟨hS.1, h _ _ hS.2⟩
  · exact hS.elim
def iX11_stepTo : Inf := (kX11_stepTo, fTX11, pTX11, cTX11, lTX11, sTX11, [(209, 0, 1, 11, S_X11_of)])
theorem ok_X11_stepTo : infOK iX11_stepTo mX11_stepTo RX11 1 21 := ⟨kkX11_stepTo, fTX11_ok, pTX11_ok _, cTX11_ok, lTX11_ok, sTX11_ok, c_cons ⟨mX11_of, 0, 0, ct_X11_of, mmX11_of, vvX11_of, lkX11_209, ⟨by decide, by decide⟩, ⟨_, _, rfl⟩, by decide, mono_X11_of⟩ (c_nil)⟩
theorem mt_X11_stepTo : mtOK [] RX11 1 21 := mt_nil
abbrev V_X11_stepTo (R : Mem → Option AV → Prop) (pc : Nat) (lc : List (Nat × AV)) (μ : Mem) : Prop := VM mX11_stepTo RX11 1 21 R pc lc [] μ
set_option maxRecDepth 20000 in
theorem vc_X11_stepTo_0 {R : Mem → Option AV → Prop} {fm to_ : Int} {μ : Mem} (H : r32 fm ∧ ((¬ fm = (8 : Int)) → (0 ≤ fm ∧ fm < 8) ∧ (0 ≤ to_ ∧ to_ < 8) ∧ (0 ≤ ((8 * (μ 227 fm)) + (μ 227 to_)) ∧ ((8 * (μ 227 fm)) + (μ 227 to_)) < 64) ∧ (0 ≤ to_ ∧ to_ < 8) ∧ P_X11_of 201 (30 + (μ 227 to_)) μ ∧ R μ (some (kI ((μ 206 ((8 * (μ 227 fm)) + (μ 227 to_))) + (F_X11_of 201 (30 + (μ 227 to_)) μ))))) ∧ (¬ (¬ fm = (8 : Int)) → (0 ≤ to_ ∧ to_ < 8) ∧ (0 ≤ ((8 * 0) + (μ 227 to_)) ∧ ((8 * 0) + (μ 227 to_)) < 64) ∧ (0 ≤ to_ ∧ to_ < 8) ∧ P_X11_of 201 (30 + (μ 227 to_)) μ ∧ R μ (some (kI ((μ 206 ((8 * 0) + (μ 227 to_))) + (F_X11_of 201 (30 + (μ 227 to_)) μ)))))) : V_X11_stepTo R 0 [(0, kR 201), (1, kI fm), (2, kI to_)] μ := by
  refine vm_step2 mt_X11_stepTo ok_X11_stepTo [] 1000 ?_
  show isC 201 11 ∧ (r32 fm ∧ r32 (8 : Int)) ∧ ((¬ fm = (8 : Int)) → isC 201 11 ∧ inA 227 0 fm ∧ isC 201 11 ∧ inA 227 0 to_ ∧ inA 206 0 ((8 * (μ 227 fm)) + (μ 227 to_)) ∧ isC 201 11 ∧ inA 227 0 to_ ∧ isC 201 11 ∧ P_X11_of 201 (30 + (μ 227 to_)) μ ∧ R μ (some (kI ((μ 206 ((8 * (μ 227 fm)) + (μ 227 to_))) + (F_X11_of 201 (30 + (μ 227 to_)) μ))))) ∧ (¬ (¬ fm = (8 : Int)) → isC 201 11 ∧ inA 227 0 to_ ∧ inA 206 0 ((8 * 0) + (μ 227 to_)) ∧ isC 201 11 ∧ inA 227 0 to_ ∧ isC 201 11 ∧ P_X11_of 201 (30 + (μ 227 to_)) μ ∧ R μ (some (kI ((μ 206 ((8 * 0) + (μ 227 to_))) + (F_X11_of 201 (30 + (μ 227 to_)) μ)))))
  exact ⟨c_201, ⟨⟨H.1, by unfold r32; omega⟩, fun hc1 => ⟨c_201, ⟨isArr.in a_227 (H.2.1 hc1).1.1 (H.2.1 hc1).1.2, ⟨c_201, ⟨isArr.in a_227 (H.2.1 hc1).2.1.1 (H.2.1 hc1).2.1.2, ⟨isArr.in a_206 (H.2.1 hc1).2.2.1.1 (H.2.1 hc1).2.2.1.2, ⟨c_201, ⟨isArr.in a_227 (H.2.1 hc1).2.2.2.1.1 (H.2.1 hc1).2.2.2.1.2, ⟨c_201, (H.2.1 hc1).2.2.2.2.1, (H.2.1 hc1).2.2.2.2.2⟩⟩⟩⟩⟩⟩⟩⟩, fun hc1 => ⟨c_201, ⟨isArr.in a_227 (H.2.2 hc1).1.1 (H.2.2 hc1).1.2, ⟨isArr.in a_206 (H.2.2 hc1).2.1.1 (H.2.2 hc1).2.1.2, ⟨c_201, ⟨isArr.in a_227 (H.2.2 hc1).2.2.1.1 (H.2.2 hc1).2.2.1.2, ⟨c_201, (H.2.2 hc1).2.2.2.1, (H.2.2 hc1).2.2.2.2⟩⟩⟩⟩⟩⟩⟩⟩
theorem body_X11_stepTo {o fm to_ : Int} {μ : Mem} {R : Mem → Option AV → Prop} (h : P_X11_stepTo o fm to_ μ) (hR : R μ (some (kI (F_X11_stepTo o fm to_ μ)))) : V_X11_stepTo R 0 [(0, kR o), (1, kI fm), (2, kI to_)] μ := by
  obtain ⟨rfl, hk, hf, t0, t1⟩ := h
  have f := hk.f
  have hm := f.2.2.2.2.2.1 to_ t0 t1
  have hp := f.2.2.2.2.2.2 fm hf
  have e5 := hk.2.1.2 to_ t0 t1
  have ew := hk.2.2 _ _ hp.1 hp.2 hm.1.1 hm.1.2
  unfold F_X11_stepTo at hR
  refine vc_X11_stepTo_0 ?_
  rw [e5, of_6 hm.1.1 (by omega)]
  refine ⟨rr (by omega), fun c => ?_, fun c => ?_⟩
  · have ep : plB μ fm = μ 227 fm := by unfold plB; rw [if_neg c, hk.2.1.2 fm (by omega) (by omega)]
    rw [ep] at ew hR hp
    rw [ew]
    exact ⟨by omega, by omega, by omega, by omega, ⟨rfl, hk.1.1, by omega, by omega⟩, hR⟩
  · have ep : plB μ fm = 0 := by unfold plB; rw [if_pos (Classical.byContradiction c)]
    rw [ep] at ew hR hp
    rw [ew]
    exact ⟨by omega, by omega, by omega, ⟨rfl, hk.1.1, by omega, by omega⟩, hR⟩
theorem ct_X11_stepTo : Ct mX11_stepTo 1 21 0 0 (nrmS S_X11_stepTo) := by
  refine ct_vm (own := RX11) (by decide +kernel) rfl ?_ ?_
  · intro as μ Q hS
    unfold S_X11_stepTo at hS
    split at hS
    · exact Nat.le_of_ble_eq_true rfl
    · exact hS.elim
  · intro as μ R hS
    unfold S_X11_stepTo at hS
    split at hS
    · exact body_X11_stepTo hS.1 hS.2
    · exact hS.elim
def P_X11_rings (o : Int) (μ : Mem) : Prop := o = 201 ∧ MB μ ∧ Holds2 μ 206 (vm μ 0 0) (wayV (vm μ))
def Q_X11_rings (_ : Int) (μ μ' : Mem) : Prop := BK μ' ∧ LSb μ' ∧ vm μ' = vm μ ∧ FldM μ μ' [43] ∧ ∀ z : Int, z ≠ 201 → z ≠ 227 → z ≠ 228 → μ' z = μ z
def S_X11_rings : S0t := fun as μ Q => match as with
  | [(2, x0)] => P_X11_rings x0 μ ∧ ∀ (μ' : Mem) , Q_X11_rings x0 μ μ'  → Q μ' none
  | _ => False
theorem mono_X11_rings : Mono S_X11_rings := by
  intro as μ Q Q' h hS
  unfold S_X11_rings at hS ⊢
  split at hS
  · exact ⟨hS.1, fun μ' q => h _ _ (hS.2 _ q)⟩
  · exact hS.elim
def iX11_rings : Inf := (kX11_rings, fTX11, pTX11, cTX11, lTX11, sTX11, [(209, 0, 1, 11, S_X11_of), (393, 0, 2, 11, S_X11_stepTo)])
theorem ok_X11_rings : infOK iX11_rings mX11_rings RX11 2 43 := ⟨kkX11_rings, fTX11_ok, pTX11_ok _, cTX11_ok, lTX11_ok, sTX11_ok, c_cons ⟨mX11_of, 0, 0, ct_X11_of, mmX11_of, vvX11_of, lkX11_209, ⟨by decide, by decide⟩, ⟨_, _, rfl⟩, by decide, mono_X11_of⟩ (c_cons ⟨mX11_stepTo, 1, 21, ct_X11_stepTo, mmX11_stepTo, vvX11_stepTo, lkX11_393, ⟨by decide, by decide⟩, ⟨_, _, rfl⟩, by decide, mono_X11_stepTo⟩ (c_nil))⟩
theorem mt_X11_rings : mtOK [] RX11 2 43 := mt_nil
abbrev V_X11_rings (R : Mem → Option AV → Prop) (pc : Nat) (lc : List (Nat × AV)) (μ : Mem) : Prop := VM mX11_rings RX11 2 43 R pc lc [] μ
set_option maxRecDepth 20000 in
theorem vc_X11_rings_0 {R : Mem → Option AV → Prop} {μ : Mem} (H : V_X11_rings R 5 [(0, kR 201)] (updm μ 201 43 0)) : V_X11_rings R 0 [(0, kR 201)] μ := by
  refine vm_step2 mt_X11_rings ok_X11_rings [(5, [0]), (7, [0, 1]), (39, [0, 1]), (49, [0, 1]), (57, [0, 1]), (69, [0, 1, 2]), (105, [0, 1, 2, 3, 4]), (186, [0, 1, 2])] 1000 ?_
  show isC 201 11 ∧ 0 = 0 ∧ True ∧ V_X11_rings R 5 [(0, kR 201)] (updm μ 201 43 0)
  exact ⟨c_201, rfl, trivial, H⟩
set_option maxRecDepth 20000 in
theorem vc_X11_rings_5 {R : Mem → Option AV → Prop} {μ : Mem} (H : V_X11_rings R 7 [(0, kR 201), (1, kI 0)] μ) : V_X11_rings R 5 [(0, kR 201)] μ := by
  refine vm_step2 mt_X11_rings ok_X11_rings [(5, [0]), (7, [0, 1]), (39, [0, 1]), (49, [0, 1]), (57, [0, 1]), (69, [0, 1, 2]), (105, [0, 1, 2, 3, 4]), (186, [0, 1, 2])] 1000 ?_
  show V_X11_rings R 7 [(0, kR 201), (1, kI 0)] μ
  exact H
set_option maxRecDepth 20000 in
theorem vc_X11_rings_7 {R : Mem → Option AV → Prop} {s : Int} {μ : Mem} (H : r32 s ∧ r32 (μ 201 13) ∧ (((μ 201 13) ≤ s) → V_X11_rings R 57 [(0, kR 201), (1, kI 0)] μ) ∧ (¬ ((μ 201 13) ≤ s) → P_X11_of 201 (10 + s) μ ∧ r32 (F_X11_of 201 (10 + s) μ) ∧ ((¬ (F_X11_of 201 (10 + s) μ) = 0) → (0 ≤ (μ 201 43) ∧ (μ 201 43) < 8) ∧ V_X11_rings R 39 [(0, kR 201), (1, kI s)] (updm μ 227 (μ 201 43) s)) ∧ (¬ (¬ (F_X11_of 201 (10 + s) μ) = 0) → V_X11_rings R 49 [(0, kR 201), (1, kI s)] μ))) : V_X11_rings R 7 [(0, kR 201), (1, kI s)] μ := by
  refine vm_step2 mt_X11_rings ok_X11_rings [(5, [0]), (7, [0, 1]), (39, [0, 1]), (49, [0, 1]), (57, [0, 1]), (69, [0, 1, 2]), (105, [0, 1, 2, 3, 4]), (186, [0, 1, 2])] 1000 ?_
  show isC 201 11 ∧ (r32 s ∧ r32 (μ 201 13)) ∧ (((μ 201 13) ≤ s) → V_X11_rings R 57 [(0, kR 201), (1, kI 0)] μ) ∧ (¬ ((μ 201 13) ≤ s) → isC 201 11 ∧ P_X11_of 201 (10 + s) μ ∧ r32 (F_X11_of 201 (10 + s) μ) ∧ ((¬ (F_X11_of 201 (10 + s) μ) = 0) → isC 201 11 ∧ isC 201 11 ∧ inA 227 0 (μ 201 43) ∧ V_X11_rings R 39 [(0, kR 201), (1, kI s)] (updm μ 227 (μ 201 43) s)) ∧ (¬ (¬ (F_X11_of 201 (10 + s) μ) = 0) → V_X11_rings R 49 [(0, kR 201), (1, kI s)] μ))
  exact ⟨c_201, ⟨⟨H.1, H.2.1⟩, fun hc2 => (H.2.2.1 hc2), fun hc2 => ⟨c_201, (H.2.2.2 hc2).1, ⟨(H.2.2.2 hc2).2.1, fun hc1 => ⟨c_201, ⟨c_201, ⟨isArr.in a_227 ((H.2.2.2 hc2).2.2.1 hc1).1.1 ((H.2.2.2 hc2).2.2.1 hc1).1.2, ((H.2.2.2 hc2).2.2.1 hc1).2⟩⟩⟩, fun hc1 => ((H.2.2.2 hc2).2.2.2 hc1)⟩⟩⟩⟩
set_option maxRecDepth 20000 in
theorem vc_X11_rings_39 {R : Mem → Option AV → Prop} {s : Int} {μ : Mem} (H : V_X11_rings R 49 [(0, kR 201), (1, kI s)] (updm μ 201 43 ((μ 201 43) + 1))) : V_X11_rings R 39 [(0, kR 201), (1, kI s)] μ := by
  refine vm_step2 mt_X11_rings ok_X11_rings [(5, [0]), (7, [0, 1]), (39, [0, 1]), (49, [0, 1]), (57, [0, 1]), (69, [0, 1, 2]), (105, [0, 1, 2, 3, 4]), (186, [0, 1, 2])] 1000 ?_
  show isC 201 11 ∧ isC 201 11 ∧ 0 = 0 ∧ True ∧ V_X11_rings R 49 [(0, kR 201), (1, kI s)] (updm μ 201 43 ((μ 201 43) + 1))
  exact ⟨c_201, ⟨c_201, rfl, trivial, H⟩⟩
set_option maxRecDepth 20000 in
theorem vc_X11_rings_49 {R : Mem → Option AV → Prop} {s : Int} {μ : Mem} (H : V_X11_rings R 7 [(0, kR 201), (1, kI (s + 1))] μ) : V_X11_rings R 49 [(0, kR 201), (1, kI s)] μ := by
  refine vm_step2 mt_X11_rings ok_X11_rings [(5, [0]), (7, [0, 1]), (39, [0, 1]), (49, [0, 1]), (57, [0, 1]), (69, [0, 1, 2]), (105, [0, 1, 2, 3, 4]), (186, [0, 1, 2])] 1000 ?_
  show V_X11_rings R 7 [(0, kR 201), (1, kI (s + 1))] μ
  exact H
set_option maxRecDepth 20000 in
theorem vc_X11_rings_57 {R : Mem → Option AV → Prop} {s : Int} {μ : Mem} (H : r32 s ∧ r32 (bshl 1 (μ 201 43)) ∧ (((bshl 1 (μ 201 43)) ≤ s) → R μ none) ∧ (¬ ((bshl 1 (μ 201 43)) ≤ s) → V_X11_rings R 69 [(0, kR 201), (1, kI s), (2, kI 0)] μ)) : V_X11_rings R 57 [(0, kR 201), (1, kI s)] μ := by
  refine vm_step2 mt_X11_rings ok_X11_rings [(5, [0]), (7, [0, 1]), (39, [0, 1]), (49, [0, 1]), (57, [0, 1]), (69, [0, 1, 2]), (105, [0, 1, 2, 3, 4]), (186, [0, 1, 2])] 1000 ?_
  show isC 201 11 ∧ (r32 s ∧ r32 (bshl 1 (μ 201 43))) ∧ (((bshl 1 (μ 201 43)) ≤ s) → R μ none) ∧ (¬ ((bshl 1 (μ 201 43)) ≤ s) → V_X11_rings R 69 [(0, kR 201), (1, kI s), (2, kI 0)] μ)
  exact ⟨c_201, ⟨⟨H.1, H.2.1⟩, fun hc3 => (H.2.2.1 hc3), fun hc3 => (H.2.2.2 hc3)⟩⟩
set_option maxRecDepth 20000 in
theorem vc_X11_rings_69 {R : Mem → Option AV → Prop} {s fm : Int} {μ : Mem} (H : r32 fm ∧ (((9 : Int) ≤ fm) → V_X11_rings R 57 [(0, kR 201), (1, kI (s + 1))] μ) ∧ (¬ ((9 : Int) ≤ fm) → r32 fm ∧ (((8 : Int) ≤ fm) → r32 s ∧ ((¬ s = 0) → V_X11_rings R 105 [(0, kR 201), (1, kI s), (2, kI fm), (3, kI (-1)), (4, kI 0)] μ) ∧ (¬ (¬ s = 0) → V_X11_rings R 105 [(0, kR 201), (1, kI s), (2, kI fm), (3, kI 0), (4, kI 0)] μ)) ∧ (¬ ((8 : Int) ≤ fm) → r32 fm ∧ r32 (μ 201 43) ∧ ((fm < (μ 201 43)) → r32 s ∧ ((¬ s = 0) → V_X11_rings R 105 [(0, kR 201), (1, kI s), (2, kI fm), (3, kI (-1)), (4, kI 0)] μ) ∧ (¬ (¬ s = 0) → V_X11_rings R 105 [(0, kR 201), (1, kI s), (2, kI fm), (3, kI 0), (4, kI 0)] μ)) ∧ (¬ (fm < (μ 201 43)) → V_X11_rings R 186 [(0, kR 201), (1, kI s), (2, kI fm)] μ)))) : V_X11_rings R 69 [(0, kR 201), (1, kI s), (2, kI fm)] μ := by
  refine vm_step2 mt_X11_rings ok_X11_rings [(5, [0]), (7, [0, 1]), (39, [0, 1]), (49, [0, 1]), (57, [0, 1]), (69, [0, 1, 2]), (105, [0, 1, 2, 3, 4]), (186, [0, 1, 2])] 1000 ?_
  show (r32 fm ∧ r32 (9 : Int)) ∧ (((9 : Int) ≤ fm) → V_X11_rings R 57 [(0, kR 201), (1, kI (s + 1))] μ) ∧ (¬ ((9 : Int) ≤ fm) → (r32 fm ∧ r32 (8 : Int)) ∧ (((8 : Int) ≤ fm) → r32 s ∧ ((¬ s = 0) → V_X11_rings R 105 [(0, kR 201), (1, kI s), (2, kI fm), (3, kI (-1)), (4, kI 0)] μ) ∧ (¬ (¬ s = 0) → V_X11_rings R 105 [(0, kR 201), (1, kI s), (2, kI fm), (3, kI 0), (4, kI 0)] μ)) ∧ (¬ ((8 : Int) ≤ fm) → isC 201 11 ∧ (r32 fm ∧ r32 (μ 201 43)) ∧ ((fm < (μ 201 43)) → r32 s ∧ ((¬ s = 0) → V_X11_rings R 105 [(0, kR 201), (1, kI s), (2, kI fm), (3, kI (-1)), (4, kI 0)] μ) ∧ (¬ (¬ s = 0) → V_X11_rings R 105 [(0, kR 201), (1, kI s), (2, kI fm), (3, kI 0), (4, kI 0)] μ)) ∧ (¬ (fm < (μ 201 43)) → V_X11_rings R 186 [(0, kR 201), (1, kI s), (2, kI fm)] μ)))
  exact ⟨⟨H.1, by unfold r32; omega⟩, fun hc8 => (H.2.1 hc8), fun hc8 => ⟨⟨(H.2.2 hc8).1, by unfold r32; omega⟩, fun hc7 => ⟨((H.2.2 hc8).2.1 hc7).1, fun hc4 => (((H.2.2 hc8).2.1 hc7).2.1 hc4), fun hc4 => (((H.2.2 hc8).2.1 hc7).2.2 hc4)⟩, fun hc7 => ⟨c_201, ⟨⟨((H.2.2 hc8).2.2 hc7).1, ((H.2.2 hc8).2.2 hc7).2.1⟩, fun hc6 => ⟨(((H.2.2 hc8).2.2 hc7).2.2.1 hc6).1, fun hc5 => ((((H.2.2 hc8).2.2 hc7).2.2.1 hc6).2.1 hc5), fun hc5 => ((((H.2.2 hc8).2.2 hc7).2.2.1 hc6).2.2 hc5)⟩, fun hc6 => (((H.2.2 hc8).2.2 hc7).2.2.2 hc6)⟩⟩⟩⟩
set_option maxRecDepth 20000 in
theorem vc_X11_rings_105 {R : Mem → Option AV → Prop} {s fm low to_ : Int} {μ : Mem} (H : r32 to_ ∧ r32 (μ 201 43) ∧ (((μ 201 43) ≤ to_) → (0 ≤ ((9 * s) + fm) ∧ ((9 * s) + fm) < 2304) ∧ V_X11_rings R 186 [(0, kR 201), (1, kI s), (2, kI fm)] (updm μ 228 ((9 * s) + fm) low)) ∧ (¬ ((μ 201 43) ≤ to_) → r32 (band (bshr s to_) 1) ∧ ((¬ (band (bshr s to_) 1) = 0) → P_X11_stepTo 201 fm to_ μ ∧ (0 ≤ ((9 * (band s (bxor (bshl 1 to_) (-1)))) + to_) ∧ ((9 * (band s (bxor (bshl 1 to_) (-1)))) + to_) < 2304) ∧ r32 low ∧ ((low < 0) → V_X11_rings R 105 [(0, kR 201), (1, kI s), (2, kI fm), (3, kI ((F_X11_stepTo 201 fm to_ μ) + (μ 228 ((9 * (band s (bxor (bshl 1 to_) (-1)))) + to_)))), (4, kI (to_ + 1))] μ) ∧ (¬ (low < 0) → r32 ((F_X11_stepTo 201 fm to_ μ) + (μ 228 ((9 * (band s (bxor (bshl 1 to_) (-1)))) + to_))) ∧ r32 low ∧ ((low ≤ ((F_X11_stepTo 201 fm to_ μ) + (μ 228 ((9 * (band s (bxor (bshl 1 to_) (-1)))) + to_)))) → V_X11_rings R 105 [(0, kR 201), (1, kI s), (2, kI fm), (3, kI low), (4, kI (to_ + 1))] μ) ∧ (¬ (low ≤ ((F_X11_stepTo 201 fm to_ μ) + (μ 228 ((9 * (band s (bxor (bshl 1 to_) (-1)))) + to_)))) → V_X11_rings R 105 [(0, kR 201), (1, kI s), (2, kI fm), (3, kI ((F_X11_stepTo 201 fm to_ μ) + (μ 228 ((9 * (band s (bxor (bshl 1 to_) (-1)))) + to_)))), (4, kI (to_ + 1))] μ))) ∧ (¬ (¬ (band (bshr s to_) 1) = 0) → V_X11_rings R 105 [(0, kR 201), (1, kI s), (2, kI fm), (3, kI low), (4, kI (to_ + 1))] μ))) : V_X11_rings R 105 [(0, kR 201), (1, kI s), (2, kI fm), (3, kI low), (4, kI to_)] μ := by
  refine vm_step2 mt_X11_rings ok_X11_rings [(5, [0]), (7, [0, 1]), (39, [0, 1]), (49, [0, 1]), (57, [0, 1]), (69, [0, 1, 2]), (105, [0, 1, 2, 3, 4]), (186, [0, 1, 2])] 1000 ?_
  show isC 201 11 ∧ (r32 to_ ∧ r32 (μ 201 43)) ∧ (((μ 201 43) ≤ to_) → isC 201 11 ∧ inA 228 0 ((9 * s) + fm) ∧ V_X11_rings R 186 [(0, kR 201), (1, kI s), (2, kI fm)] (updm μ 228 ((9 * s) + fm) low)) ∧ (¬ ((μ 201 43) ≤ to_) → r32 (band (bshr s to_) 1) ∧ ((¬ (band (bshr s to_) 1) = 0) → isC 201 11 ∧ P_X11_stepTo 201 fm to_ μ ∧ isC 201 11 ∧ inA 228 0 ((9 * (band s (bxor (bshl 1 to_) (-1)))) + to_) ∧ r32 low ∧ ((low < 0) → V_X11_rings R 105 [(0, kR 201), (1, kI s), (2, kI fm), (3, kI ((F_X11_stepTo 201 fm to_ μ) + (μ 228 ((9 * (band s (bxor (bshl 1 to_) (-1)))) + to_)))), (4, kI (to_ + 1))] μ) ∧ (¬ (low < 0) → (r32 ((F_X11_stepTo 201 fm to_ μ) + (μ 228 ((9 * (band s (bxor (bshl 1 to_) (-1)))) + to_))) ∧ r32 low) ∧ ((low ≤ ((F_X11_stepTo 201 fm to_ μ) + (μ 228 ((9 * (band s (bxor (bshl 1 to_) (-1)))) + to_)))) → V_X11_rings R 105 [(0, kR 201), (1, kI s), (2, kI fm), (3, kI low), (4, kI (to_ + 1))] μ) ∧ (¬ (low ≤ ((F_X11_stepTo 201 fm to_ μ) + (μ 228 ((9 * (band s (bxor (bshl 1 to_) (-1)))) + to_)))) → V_X11_rings R 105 [(0, kR 201), (1, kI s), (2, kI fm), (3, kI ((F_X11_stepTo 201 fm to_ μ) + (μ 228 ((9 * (band s (bxor (bshl 1 to_) (-1)))) + to_)))), (4, kI (to_ + 1))] μ))) ∧ (¬ (¬ (band (bshr s to_) 1) = 0) → V_X11_rings R 105 [(0, kR 201), (1, kI s), (2, kI fm), (3, kI low), (4, kI (to_ + 1))] μ))
  exact ⟨c_201, ⟨⟨H.1, H.2.1⟩, fun hc12 => ⟨c_201, ⟨isArr.in a_228 (H.2.2.1 hc12).1.1 (H.2.2.1 hc12).1.2, (H.2.2.1 hc12).2⟩⟩, fun hc12 => ⟨(H.2.2.2 hc12).1, fun hc11 => ⟨c_201, ((H.2.2.2 hc12).2.1 hc11).1, ⟨c_201, ⟨isArr.in a_228 ((H.2.2.2 hc12).2.1 hc11).2.1.1 ((H.2.2.2 hc12).2.1 hc11).2.1.2, ⟨((H.2.2.2 hc12).2.1 hc11).2.2.1, fun hc10 => (((H.2.2.2 hc12).2.1 hc11).2.2.2.1 hc10), fun hc10 => ⟨⟨(((H.2.2.2 hc12).2.1 hc11).2.2.2.2 hc10).1, (((H.2.2.2 hc12).2.1 hc11).2.2.2.2 hc10).2.1⟩, fun hc9 => ((((H.2.2.2 hc12).2.1 hc11).2.2.2.2 hc10).2.2.1 hc9), fun hc9 => ((((H.2.2.2 hc12).2.1 hc11).2.2.2.2 hc10).2.2.2 hc9)⟩⟩⟩⟩⟩, fun hc11 => ((H.2.2.2 hc12).2.2 hc11)⟩⟩⟩
set_option maxRecDepth 20000 in
theorem vc_X11_rings_186 {R : Mem → Option AV → Prop} {s fm : Int} {μ : Mem} (H : V_X11_rings R 69 [(0, kR 201), (1, kI s), (2, kI (fm + 1))] μ) : V_X11_rings R 186 [(0, kR 201), (1, kI s), (2, kI fm)] μ := by
  refine vm_step2 mt_X11_rings ok_X11_rings [(5, [0]), (7, [0, 1]), (39, [0, 1]), (49, [0, 1]), (57, [0, 1]), (69, [0, 1, 2]), (105, [0, 1, 2, 3, 4]), (186, [0, 1, 2])] 1000 ?_
  show V_X11_rings R 69 [(0, kR 201), (1, kI s), (2, kI (fm + 1))] μ
  exact H
theorem body_X11_rings {o : Int} {μ : Mem} {R : Mem → Option AV → Prop} (h : P_X11_rings o μ) (hR : ∀ μ' : Mem, Q_X11_rings o μ μ' → R μ' none) : V_X11_rings R 0 [(0, kR o)] μ := by
  obtain ⟨rfl, hb, hw⟩ := h
  have ok := hb.v
  have hp := hb.p
  have hpe := hb.2.1
  have vok : VOk (vm μ) := hb.2.2
  refine vc_X11_rings_0 (vc_X11_rings_5 ?_)
  -- the list
  refine up_ind (P := fun a => ∀ μ1 : Mem, (∀ z : Int, z ≠ 201 → z ≠ 227 → μ1 z = μ z) → FldM μ μ1 [43] → μ1 201 43 = cntB (celM μ) a → (∀ k : Int, 0 ≤ k → k < cntB (celM μ) a → μ1 227 k = mthV (celM μ) k) → V_X11_rings R 7 [(0, kR 201), (1, kI a)] μ1) (lo := 0) (hi := μ 201 13) ?_ ?_ 0 (by omega) (by omega) _ (fun z h1 h2 => ru_ne h1) (fun f hf => ?_) ?_ (fun k k0 k1 => ?_)
  · intro a a0 a1 ih μ1 hf hfl hc hk
    have e13 : μ1 201 13 = μ 201 13 := hfl 13 (by decide)
    have mb := MB_frame hb (hf 202 (by omega) (by omega)) (hfl 12 (by decide)) e13
    have e4 : F_X11_of 201 (10 + a) μ1 = vm μ 4 a := by rw [of_4 (by omega) (by omega), mb.2]
    have h4 := (ok.2.2.2.1 a (by omega) (by omega)).1
    have hah : hasB (celM μ) a = (decide (a < vm μ 0 0) && decide (0 < vm μ 4 a)) := cell_has ok a0
    have cb := cntB_bd (s := celM μ) (c := a) (by omega)
    have cs := cntB_s (s := celM μ) (c := a) (by omega)
    refine vc_X11_rings_7 ?_
    rw [e13, e4]
    refine ⟨rr (by omega), rr (by omega), fun c => absurd c (by omega), fun _ => ⟨⟨rfl, mb.1.1, by omega, by omega⟩, rr (by omega), fun c => ?_, fun c => vc_X11_rings_49 ?_⟩⟩
    · have hin : hasB (celM μ) a = true := by
        rw [hah, decide_eq_true (show a < vm μ 0 0 by omega), decide_eq_true (show 0 < vm μ 4 a by omega)]; rfl
      rw [hin, if_pos rfl] at cs
      refine ⟨by omega, ?_⟩
      obtain ⟨m1, e1⟩ : ∃ m, m = updm μ1 227 (μ1 201 43) a := ⟨_, rfl⟩
      rw [← e1]
      refine vc_X11_rings_39 (vc_X11_rings_49 ?_)
      obtain ⟨m, e⟩ : ∃ m, m = updm m1 201 43 (m1 201 43 + 1) := ⟨_, rfl⟩
      rw [← e]
      have g14 : m1 201 43 = μ1 201 43 := by rw [e1, ru_ne (by omega)]
      refine ih m (fun z h1 h2 => by rw [e, ru_ne h1, e1, ru_ne h2]; exact hf z h1 h2) (fun f hff => ?_) (by rw [e, ru_eq, r1_eq, g14, hc, cs]) (fun k k0 k1 => ?_)
      · have q : f ≠ 43 := fun q => hff (by simp [q])
        rw [e, ru_eq, r1_ne q, e1, ru_ne (by omega)]
        exact hfl f hff
      · rw [e, ru_ne (by omega), e1, ru_eq, hc]
        by_cases q : k = cntB (celM μ) a
        · rw [q, r1_eq, mth_at (by omega) (by omega) hin]
        · rw [r1_ne q]; exact hk k k0 (by omega)
    · have hin : hasB (celM μ) a = false := by
        rw [hah, decide_eq_false (show ¬ 0 < vm μ 4 a by omega), Bool.and_false]
      rw [hin, if_neg (by decide)] at cs
      exact ih μ1 hf hfl (by rw [hc, cs]; omega) (fun k k0 k1 => hk k k0 (by omega))
  · intro μ1 hf hfl hc hk
    have e13 : μ1 201 13 = μ 201 13 := hfl 13 (by decide)
    have ec : popc (celM μ) = cntB (celM μ) (μ 201 13) := cnt_tail (by omega) (by omega) (fun a a0 a1 => by
      show hasB (cellV (vm μ)) a = false
      rw [cell_has ok (by omega), decide_eq_false (show ¬ a < vm μ 0 0 by omega), Bool.false_and])
    rw [← ec] at hc hk
    have mb1 := MB_frame hb (hf 202 (by omega) (by omega)) (hfl 12 (by decide)) e13
    have ec1 : celM μ1 = celM μ := by unfold celM; rw [mb1.2]
    have bk1 : BK μ1 := ⟨mb1.1, by unfold CB; rw [ec1]; exact ⟨hc, hk⟩, by
      rw [mb1.2]
      intro a b a0 a1 b0 b1
      rw [hf 206 (by omega) (by omega)]
      exact hw a b a0 a1 b0 b1⟩
    refine vc_X11_rings_7 ?_
    rw [e13]
    refine ⟨rr (by omega), rr (by omega), fun _ => ?_, fun c => absurd (Int.le_refl _) c⟩
    -- the sums
    have f := bk1.f
    have p1 := pw2_le f.2.2.1.1 f.2.2.1.2
    have es := b_shl (k := popc (celM μ1)) (by omega) (by omega)
    have vok1 : VOk (vm μ1) := bk1.1.2.2
    obtain ⟨N2, hN⟩ : ∃ N2 : Int, N2 = ((2 ^ (popc (celM μ1)).toNat : Nat) : Int) := ⟨_, rfl⟩
    rw [← hN] at p1 es
    have e14 := bk1.2.1.1
    obtain ⟨Dn, hDn⟩ : ∃ Dn : Mem → Int → Int → Prop, Dn = fun m t fm => (∀ z : Int, z ≠ 228 → m z = μ1 z) ∧ ∀ t' fm' : Int, 0 ≤ t' → (fm' = 8 ∨ (0 ≤ fm' ∧ fm' < popc (celM μ1))) → (t' < t ∨ (t' = t ∧ fm' < fm)) → m 228 (9 * t' + fm') = rsM (vm μ1) (celM μ1) (plB μ1 fm') t' := ⟨_, rfl⟩
    have fr : ∀ m t fm, Dn m t fm → BK m ∧ vm m = vm μ1 ∧ celM m = celM μ1 ∧ (∀ fm, plB m fm = plB μ1 fm) ∧ m 201 43 = popc (celM μ1) := fun m t fm hm => by
      rw [hDn] at hm
      have z := hm.1
      have := BK_frame (m := m) bk1 (fun f _ => by rw [z 201 (by omega)]) (z 202 (by omega)) (z 206 (by omega)) (z 227 (by omega))
      exact ⟨this.1, this.2.1, this.2.2.1, this.2.2.2, by rw [z 201 (by omega), e14]⟩
    refine up_ind (P := fun t => ∀ m : Mem, Dn m t 0 → V_X11_rings R 57 [(0, kR 201), (1, kI t)] m) (lo := 0) (hi := N2) ?_ ?_ 0 (by omega) (by omega) μ1 (by rw [hDn]; exact ⟨fun _ _ => rfl, fun t' fm' _ _ _ => by omega⟩)
    · intro t t0 t1 iht m hm
      obtain ⟨hkm, ev, ea, eB, m14⟩ := fr m t 0 hm
      refine vc_X11_rings_57 ?_
      rw [m14, es]
      refine ⟨rr (by omega), rr (by omega), fun c => absurd c (by omega), fun _ => ?_⟩
      refine up_ind (P := fun fm => ∀ m : Mem, Dn m t fm → V_X11_rings R 69 [(0, kR 201), (1, kI t), (2, kI fm)] m) (lo := 0) (hi := 9) ?_ ?_ 0 (by omega) (by omega) m hm
      · intro fm f0 f1 ihf m hm
        obtain ⟨hkm, ev, ea, eB, m14⟩ := fr m t fm hm
        have hm2 := hm
        rw [hDn] at hm2
        have inner : (fm = 8 ∨ (0 ≤ fm ∧ fm < popc (celM μ1))) → ∀ b : Int, (t = 0 ∧ b = 0 ∨ t ≠ 0 ∧ b = -1) → V_X11_rings R 105 [(0, kR 201), (1, kI t), (2, kI fm), (3, kI b), (4, kI 0)] m := by
          intro hff b hb
          have hpl := f.2.2.2.2.2.2 fm hff
          have gb := fun k k0 k1 => bG_bd (t := t) (k := k) vok1 f.2.2.2.2.1 hpl.1 hpl.2 k0 k1
          have db := dig_bd f.1 (exS (celM μ1) t)
          obtain ⟨G, hG⟩ : ∃ G : Int → Int, G = bG (vm μ1) (celM μ1) (plB μ1 fm) t := ⟨_, rfl⟩
          rw [← hG] at gb
          obtain ⟨D, hD⟩ : ∃ D : Int, D = digV (vm μ1) (exS (celM μ1) t) := ⟨_, rfl⟩
          rw [← hD] at db
          have key := up_ind (P := fun k => V_X11_rings R 105 [(0, kR 201), (1, kI t), (2, kI fm), (3, kI (if t = 0 then 0 else if (mnF (hasB t) G k).2 < 0 then -1 else (mnF (hasB t) G k).1 + D)), (4, kI k)] m) (lo := 0) (hi := popc (celM μ1)) ?_ ?_
          · have := key 0 (by omega) (by omega)
            have e : (if t = 0 then 0 else if (mnF (hasB t) G 0).2 < 0 then -1 else (mnF (hasB t) G 0).1 + D) = b := by
              rcases hb with ⟨x, y⟩ | ⟨x, y⟩
              · rw [if_pos x, y]
              · rw [if_neg x, y]; rfl
            rw [e] at this
            exact this
          · intro k k0 k1 ih
            have et := b_tst (s := t) (a := k) t0 (by omega) k0 (by omega)
            have erem := b_rem (s := t) (a := k) t0 (by omega) k0 (by omega)
            have ms := mnF_s (q := hasB t) (f := G) k0
            refine vc_X11_rings_105 ?_
            rw [m14, et]
            by_cases hbit : hasB t k = true
            · have tn : t ≠ 0 := fun q => by rw [q, has_0] at hbit; exact absurd hbit (by decide)
              have rb := rem_bd (s := t) (a := k) t0
              have rl' := rem_lt t0 k0 hbit
              have e8 := hm2.2 (remS t k) k rb.1 (Or.inr ⟨k0, k1⟩) (Or.inl rl')
              have ev8 : plB μ1 k = mthV (celM μ1) k := by unfold plB; rw [if_neg (by omega)]
              have eS : F_X11_stepTo 201 fm k m = wayV (vm μ1) (plB μ1 fm) (mthV (celM μ1) k) + vm μ1 6 (mthV (celM μ1) k) := by unfold F_X11_stepTo; rw [ev, ea, eB]
              have st := bG_step (v := vm μ1) (s := celM μ1) (fm := plB μ1 fm) (t := t) (k := k) f.2.1.2 f.2.2.2.2.1 k0 k1 hbit
              rw [← hG, ← hD] at st
              rw [if_pos hbit, erem, eS, e8, ev8, st]
              have gbk := gb k k0 k1
              rw [if_neg tn] at ih ⊢
              rw [ms] at ih
              have mc := mnF_cases (q := hasB t) (f := G) (n := k) k0
              generalize mnF (hasB t) G k = M at ih mc ⊢
              have mb : M.2 < 0 ∨ (¬ M.2 < 0 ∧ 0 ≤ M.1 ∧ M.1 ≤ 1260) := by
                rcases mc with ⟨e, _⟩ | ⟨j, hj, e, _⟩
                · left; rw [e]; show (-1 : Int) < 0; omega
                · right
                  have := gb j hj.1 (by omega)
                  rw [e]
                  exact ⟨by show ¬ j < 0; omega, this⟩
              by_cases cM : M.2 < 0
              · rw [if_pos cM]
                rw [if_pos (show hasB t k = true ∧ (M.2 < 0 ∨ G k < M.1) from ⟨hbit, Or.inl cM⟩), if_neg (by show ¬ k < 0; omega)] at ih
                exact ⟨rr (by omega), rr (by omega), fun c => absurd c (by omega), fun _ => ⟨rr (by omega), fun _ => ⟨⟨rfl, hkm, by rw [ea]; exact hff, by rw [ea]; exact ⟨k0, k1⟩⟩, by omega, rr (by omega), fun _ => ih, fun c => absurd (by omega) c⟩, fun c => absurd (show ¬ (1 : Int) = 0 by omega) c⟩⟩
              · have mb' : 0 ≤ M.1 ∧ M.1 ≤ 1260 := by rcases mb with q | q; exact absurd q cM; exact q.2
                rw [if_neg cM]
                refine ⟨rr (by omega), rr (by omega), fun c => absurd c (by omega), fun _ => ⟨rr (by omega), fun _ => ⟨⟨rfl, hkm, by rw [ea]; exact hff, by rw [ea]; exact ⟨k0, k1⟩⟩, by omega, rr (by omega), fun c => absurd c (by omega), fun _ => ⟨rr (by omega), rr (by omega), fun c2 => ?_, fun c2 => ?_⟩⟩, fun c => absurd (show ¬ (1 : Int) = 0 by omega) c⟩⟩
                · rw [if_neg (show ¬ (hasB t k = true ∧ (M.2 < 0 ∨ G k < M.1)) from fun q => by rcases q.2 with q | q <;> omega), if_neg cM] at ih
                  exact ih
                · rw [if_pos (show hasB t k = true ∧ (M.2 < 0 ∨ G k < M.1) from ⟨hbit, Or.inr (by omega)⟩), if_neg (by show ¬ k < 0; omega)] at ih
                  exact ih
            · rw [if_neg hbit]
              rw [show mnF (hasB t) G (k + 1) = mnF (hasB t) G k by rw [ms, if_neg (fun q => hbit q.1)]] at ih
              exact ⟨rr (by omega), rr (by omega), fun c => absurd c (by omega), fun _ => ⟨rr (by omega), fun c => absurd rfl c, fun _ => ih⟩⟩
          · refine vc_X11_rings_105 ?_
            rw [m14]
            refine ⟨rr (by omega), rr (by omega), fun _ => ⟨by omega, vc_X11_rings_186 (ihf _ ?_)⟩, fun c => absurd (Int.le_refl _) c⟩
            have eval : (if t = 0 then 0 else if (mnF (hasB t) G (popc (celM μ1))).2 < 0 then -1 else (mnF (hasB t) G (popc (celM μ1))).1 + D) = rsM (vm μ1) (celM μ1) (plB μ1 fm) t := by
              unfold rsM
              by_cases tn : t = 0
              · rw [if_pos tn, tn, ex_0, rcV_eq (by omega) (by omega), dig_0 (by omega)]
                unfold rcS
                rw [if_pos rfl]
                rfl
              · rw [if_neg tn, ← hD]
                have rl0 := rc_lst (W := wayV (vm μ1)) (r := oneV) (n := vm μ1 0 0) (s := celM μ1) (t := t) (fm := plB μ1 fm) (by omega) f.2.1.2 f.2.2.2.2.1 t0 tn (by omega)
                have eg : (fun k => wayV (vm μ1) (plB μ1 fm) (mthV (celM μ1) k) * oneV (exS (celM μ1) t) + rcV (wayV (vm μ1)) oneV (vm μ1 0 0) (mthV (celM μ1) k) (exS (celM μ1) (remS t k))) = G := hG.symm
                rw [eg] at rl0
                rw [if_neg (by have := rl0.2.1.1; omega), rl0.1]
            rw [eval, hDn]
            refine ⟨fun z hz => by rw [ru_ne hz]; exact hm2.1 z hz, fun t' fm' h0 hf' ho => ?_⟩
            rw [ru_eq]
            by_cases q : t' = t ∧ fm' = fm
            · rw [q.1, q.2, r1_eq]
            · rw [r1_ne (by omega)]
              exact hm2.2 t' fm' h0 hf' (by omega)
        have skip : ¬ (fm = 8 ∨ (0 ≤ fm ∧ fm < popc (celM μ1))) → Dn m t (fm + 1) := fun hno => by
          rw [hDn]
          exact ⟨hm2.1, fun t' fm' h0 hf' ho => hm2.2 t' fm' h0 hf' (by omega)⟩
        refine vc_X11_rings_69 ?_
        rw [m14]
        refine ⟨rr (by omega), fun c => absurd c (by omega), fun _ => ⟨rr (by omega), fun c => ⟨rr (by omega), fun d => inner (by omega) _ (Or.inr ⟨d, rfl⟩), fun d => inner (by omega) _ (Or.inl ⟨Classical.byContradiction d, rfl⟩)⟩, fun c => ⟨rr (by omega), rr (by omega), fun c2 => ⟨rr (by omega), fun d => inner (by omega) _ (Or.inr ⟨d, rfl⟩), fun d => inner (by omega) _ (Or.inl ⟨Classical.byContradiction d, rfl⟩)⟩, fun c2 => vc_X11_rings_186 (ihf m (skip (by omega)))⟩⟩⟩
      · intro m hm
        refine vc_X11_rings_69 ⟨rr (by omega), fun _ => iht m ?_, fun c => absurd (Int.le_refl _) c⟩
        rw [hDn] at hm ⊢
        exact ⟨hm.1, fun t' fm' h0 hf' ho => hm.2 t' fm' h0 hf' (by omega)⟩
    · intro m hm
      obtain ⟨hkm, ev, ea, eB, m14⟩ := fr m _ _ hm
      refine vc_X11_rings_57 ?_
      rw [m14, es]
      refine ⟨rr (by omega), rr (by omega), fun _ => hR m ?_, fun c => absurd (Int.le_refl _) c⟩
      rw [hDn] at hm
      refine ⟨hkm, fun t fm t0 t1 hff => ?_, by rw [ev, mb1.2], fun f hf' => by rw [hm.1 201 (by omega)]; exact hfl f hf', fun z h1 h2 h3 => by rw [hm.1 z h3, hf z h1 h2]⟩
      rw [ea] at t1 hff
      rw [ea, ev, eB]
      exact hm.2 t fm t0 hff (Or.inl (by omega))
  · have q : f ≠ 43 := fun q => hf (by simp [q])
    rw [ru_eq, r1_ne q]
  · rw [ru_eq, r1_eq]; rfl
  · have : cntB (celM μ) 0 = 0 := rfl
    omega
theorem ct_X11_rings : Ct mX11_rings 2 43 0 0 (nrmS S_X11_rings) := by
  refine ct_vm (own := RX11) (by decide +kernel) rfl ?_ ?_
  · intro as μ Q hS
    unfold S_X11_rings at hS
    split at hS
    · exact Nat.le_of_ble_eq_true rfl
    · exact hS.elim
  · intro as μ R hS
    unfold S_X11_rings at hS
    split at hS
    · exact body_X11_rings hS.1 hS.2
    · exact hS.elim
def P_X11_bellWorth (o t : Int) (μ : Mem) : Prop := o = 201 ∧ BK μ ∧ 0 ≤ t ∧ t < 256
def F_X11_bellWorth (_ t : Int) (μ : Mem) : Int := smellV (vm μ) (exS (celM μ) t)
def S_X11_bellWorth : S0t := fun as μ Q => match as with
  | [(2, x0), (0, x1)] => P_X11_bellWorth x0 x1 μ ∧ Q μ (some (kI (F_X11_bellWorth x0 x1 μ)))
  | _ => False
theorem mono_X11_bellWorth : Mono S_X11_bellWorth := by
  intro as μ Q Q' h hS
  unfold S_X11_bellWorth at hS ⊢
  split at hS
  · exact ⟨hS.1, h _ _ hS.2⟩
  · exact hS.elim
def iX11_bellWorth : Inf := (kX11_bellWorth, fTX11, pTX11, cTX11, lTX11, sTX11, [(209, 0, 1, 11, S_X11_of)])
theorem ok_X11_bellWorth : infOK iX11_bellWorth mX11_bellWorth RX11 1 21 := ⟨kkX11_bellWorth, fTX11_ok, pTX11_ok _, cTX11_ok, lTX11_ok, sTX11_ok, c_cons ⟨mX11_of, 0, 0, ct_X11_of, mmX11_of, vvX11_of, lkX11_209, ⟨by decide, by decide⟩, ⟨_, _, rfl⟩, by decide, mono_X11_of⟩ (c_nil)⟩
theorem mt_X11_bellWorth : mtOK [] RX11 1 21 := mt_nil
abbrev V_X11_bellWorth (R : Mem → Option AV → Prop) (pc : Nat) (lc : List (Nat × AV)) (μ : Mem) : Prop := VM mX11_bellWorth RX11 1 21 R pc lc [] μ
set_option maxRecDepth 20000 in
theorem vc_X11_bellWorth_0 {R : Mem → Option AV → Prop} {s : Int} {μ : Mem} (H : V_X11_bellWorth R 4 [(0, kR 201), (1, kI s), (2, kI 0), (3, kI 0)] μ) : V_X11_bellWorth R 0 [(0, kR 201), (1, kI s)] μ := by
  refine vm_step2 mt_X11_bellWorth ok_X11_bellWorth [(4, [0, 1, 2, 3])] 1000 ?_
  show V_X11_bellWorth R 4 [(0, kR 201), (1, kI s), (2, kI 0), (3, kI 0)] μ
  exact H
set_option maxRecDepth 20000 in
theorem vc_X11_bellWorth_4 {R : Mem → Option AV → Prop} {s sum k : Int} {μ : Mem} (H : r32 k ∧ r32 (μ 201 43) ∧ (((μ 201 43) ≤ k) → R μ (some (kI sum))) ∧ (¬ ((μ 201 43) ≤ k) → r32 (band (bshr s k) 1) ∧ ((¬ (band (bshr s k) 1) = (1 : Int)) → V_X11_bellWorth R 4 [(0, kR 201), (1, kI s), (2, kI (sum + 0)), (3, kI (k + 1))] μ) ∧ (¬ (¬ (band (bshr s k) 1) = (1 : Int)) → (0 ≤ k ∧ k < 8) ∧ P_X11_of 201 (10 + (μ 227 k)) μ ∧ (0 ≤ k ∧ k < 8) ∧ P_X11_of 201 (20 + (μ 227 k)) μ ∧ V_X11_bellWorth R 4 [(0, kR 201), (1, kI s), (2, kI (sum + ((F_X11_of 201 (10 + (μ 227 k)) μ) * (F_X11_of 201 (20 + (μ 227 k)) μ)))), (3, kI (k + 1))] μ))) : V_X11_bellWorth R 4 [(0, kR 201), (1, kI s), (2, kI sum), (3, kI k)] μ := by
  refine vm_step2 mt_X11_bellWorth ok_X11_bellWorth [(4, [0, 1, 2, 3])] 1000 ?_
  show isC 201 11 ∧ (r32 k ∧ r32 (μ 201 43)) ∧ (((μ 201 43) ≤ k) → R μ (some (kI sum))) ∧ (¬ ((μ 201 43) ≤ k) → (r32 (band (bshr s k) 1) ∧ r32 (1 : Int)) ∧ ((¬ (band (bshr s k) 1) = (1 : Int)) → V_X11_bellWorth R 4 [(0, kR 201), (1, kI s), (2, kI (sum + 0)), (3, kI (k + 1))] μ) ∧ (¬ (¬ (band (bshr s k) 1) = (1 : Int)) → isC 201 11 ∧ inA 227 0 k ∧ isC 201 11 ∧ P_X11_of 201 (10 + (μ 227 k)) μ ∧ isC 201 11 ∧ inA 227 0 k ∧ isC 201 11 ∧ P_X11_of 201 (20 + (μ 227 k)) μ ∧ V_X11_bellWorth R 4 [(0, kR 201), (1, kI s), (2, kI (sum + ((F_X11_of 201 (10 + (μ 227 k)) μ) * (F_X11_of 201 (20 + (μ 227 k)) μ)))), (3, kI (k + 1))] μ))
  exact ⟨c_201, ⟨⟨H.1, H.2.1⟩, fun hc2 => (H.2.2.1 hc2), fun hc2 => ⟨⟨(H.2.2.2 hc2).1, by unfold r32; omega⟩, fun hc1 => ((H.2.2.2 hc2).2.1 hc1), fun hc1 => ⟨c_201, ⟨isArr.in a_227 ((H.2.2.2 hc2).2.2 hc1).1.1 ((H.2.2.2 hc2).2.2 hc1).1.2, ⟨c_201, ((H.2.2.2 hc2).2.2 hc1).2.1, ⟨c_201, ⟨isArr.in a_227 ((H.2.2.2 hc2).2.2 hc1).2.2.1.1 ((H.2.2.2 hc2).2.2 hc1).2.2.1.2, ⟨c_201, ((H.2.2.2 hc2).2.2 hc1).2.2.2.1, ((H.2.2.2 hc2).2.2 hc1).2.2.2.2⟩⟩⟩⟩⟩⟩⟩⟩⟩
theorem smell_ex {v : TV} {s t : Int} (hp : 0 ≤ v 0 0) (hp8 : v 0 0 ≤ 8) (hs : ∀ a : Int, 0 ≤ a → a < 8 → hasB s a = true → a < v 0 0) : sm (fun k => if hasB t k = true then v 4 (mthV s k) * v 5 (mthV s k) else 0) (popc s) = smellV v (exS s t) := by
  have e1 : sm (fun k => if hasB t k = true then v 4 (mthV s k) * v 5 (mthV s k) else 0) (popc s) = sm (fun k => (fun a => if hasB t (cntB s a) = true then v 4 a * v 5 a else 0) (mthV s k)) (popc s) := sm_congr fun k k0 k1 => by
    show _ = if hasB t (cntB s (mthV s k)) = true then v 4 (mthV s k) * v 5 (mthV s k) else 0
    rw [mth_cnt k0 k1]
  rw [e1]
  refine (lst_sum8 (g := fun a => if hasB t (cntB s a) = true then v 4 a * v 5 a else 0) (s := s)).trans ?_
  unfold smellV
  rw [sm_tail (n := v 0 0) hp hp8 (fun a a0 a1 => by
    rw [if_neg]
    exact fun q => absurd (hs a (by omega) a1 q) (by omega))]
  refine sm_congr fun a a0 a1 => ?_
  rw [ex_has a0, decide_eq_true (show a < 8 by omega), Bool.true_and]
  by_cases c : hasB s a = true
  · rw [if_pos c, c, Bool.true_and]
  · have c' : hasB s a = false := by simpa using c
    rw [if_neg c, c', Bool.false_and, if_neg (by decide)]
theorem body_X11_bellWorth {o s : Int} {μ : Mem} {R : Mem → Option AV → Prop} (h : P_X11_bellWorth o s μ) (hR : R μ (some (kI (F_X11_bellWorth o s μ)))) : V_X11_bellWorth R 0 [(0, kR o), (1, kI s)] μ := by
  obtain ⟨rfl, hk, s0, s1⟩ := h
  have f := hk.f
  have e43 := hk.2.1.1
  unfold F_X11_bellWorth at hR
  rw [← smell_ex (by omega) f.2.1.2 f.2.2.2.2.1] at hR
  refine vc_X11_bellWorth_0 ?_
  refine up_ind (P := fun k => V_X11_bellWorth R 4 [(0, kR 201), (1, kI s), (2, kI (sm (fun k => if hasB s k = true then vm μ 4 (mthV (celM μ) k) * vm μ 5 (mthV (celM μ) k) else 0) k)), (3, kI k)] μ) (lo := 0) (hi := popc (celM μ)) ?_ ?_ 0 (by omega) f.2.2.1.1
  · intro k k0 k1 ih
    rw [sm_s k0] at ih
    have et := b_tst (s := s) (a := k) s0 (by omega) k0 (by omega)
    have hm := f.2.2.2.2.2.1 k k0 k1
    have e5 := hk.2.1.2 k k0 k1
    refine vc_X11_bellWorth_4 ?_
    rw [e43, et, e5, of_4 hm.1.1 (by omega), of_5 hm.1.1 (by omega)]
    by_cases hbit : hasB s k = true
    · rw [if_pos hbit] at ih ⊢
      exact ⟨rr (by omega), rr (by omega), fun c => absurd c (by omega), fun _ => ⟨rr (by omega), fun c => absurd rfl c, fun _ => ⟨by omega, ⟨rfl, hk.1.1, by omega, by omega⟩, by omega, ⟨rfl, hk.1.1, by omega, by omega⟩, ih⟩⟩⟩
    · rw [if_neg hbit] at ih ⊢
      exact ⟨rr (by omega), rr (by omega), fun c => absurd c (by omega), fun _ => ⟨rr (by omega), fun _ => ih, fun c => absurd (show ¬ (0 : Int) = 1 by omega) c⟩⟩
  · refine vc_X11_bellWorth_4 ?_
    rw [e43]
    exact ⟨rr (by omega), rr (by omega), fun _ => hR, fun c => absurd (Int.le_refl _) c⟩
theorem ct_X11_bellWorth : Ct mX11_bellWorth 1 21 0 0 (nrmS S_X11_bellWorth) := by
  refine ct_vm (own := RX11) (by decide +kernel) rfl ?_ ?_
  · intro as μ Q hS
    unfold S_X11_bellWorth at hS
    split at hS
    · exact Nat.le_of_ble_eq_true rfl
    · exact hS.elim
  · intro as μ R hS
    unfold S_X11_bellWorth at hS
    split at hS
    · exact body_X11_bellWorth hS.1 hS.2
    · exact hS.elim
def bstB (v : TV) (s k n : Int) : Int × Int × Int := fold (fun y t => beS v k y (exS s t)) (0, 0, 0) n
def P_X11_bestBell (o k : Int) (μ : Mem) : Prop := o = 201 ∧ BK μ ∧ LSb μ ∧ (0 ≤ k ∧ k ≤ 999)
def F_X11_bestBell (_ k : Int) (μ : Mem) : Int := coS (celM μ) (bstB (vm μ) (celM μ) k ((2 ^ (popc (celM μ)).toNat : Nat) : Int)).1
def S_X11_bestBell : S0t := fun as μ Q => match as with
  | [(2, x0), (0, x1)] => P_X11_bestBell x0 x1 μ ∧ Q μ (some (kI (F_X11_bestBell x0 x1 μ)))
  | _ => False
theorem mono_X11_bestBell : Mono S_X11_bestBell := by
  intro as μ Q Q' h hS
  unfold S_X11_bestBell at hS ⊢
  split at hS
  · exact ⟨hS.1, h _ _ hS.2⟩
  · exact hS.elim
def iX11_bestBell : Inf := (kX11_bestBell, fTX11, pTX11, cTX11, lTX11, sTX11, [(396, 0, 1, 11, S_X11_bellWorth)])
theorem ok_X11_bestBell : infOK iX11_bestBell mX11_bestBell RX11 2 44 := ⟨kkX11_bestBell, fTX11_ok, pTX11_ok _, cTX11_ok, lTX11_ok, sTX11_ok, c_cons ⟨mX11_bellWorth, 1, 21, ct_X11_bellWorth, mmX11_bellWorth, vvX11_bellWorth, lkX11_396, ⟨by decide, by decide⟩, ⟨_, _, rfl⟩, by decide, mono_X11_bellWorth⟩ (c_nil)⟩
theorem mt_X11_bestBell : mtOK [] RX11 2 44 := mt_nil
abbrev V_X11_bestBell (R : Mem → Option AV → Prop) (pc : Nat) (lc : List (Nat × AV)) (μ : Mem) : Prop := VM mX11_bestBell RX11 2 44 R pc lc [] μ
set_option maxRecDepth 20000 in
theorem vc_X11_bestBell_0 {R : Mem → Option AV → Prop} {k : Int} {μ : Mem} (H : V_X11_bestBell R 4 [(0, kR 201), (1, kI k), (2, kI 0), (3, kI 1)] μ) : V_X11_bestBell R 0 [(0, kR 201), (1, kI k)] μ := by
  refine vm_step2 mt_X11_bestBell ok_X11_bestBell [(4, [0, 1, 2, 3])] 1000 ?_
  show V_X11_bestBell R 4 [(0, kR 201), (1, kI k), (2, kI 0), (3, kI 1)] μ
  exact H
set_option maxRecDepth 20000 in
theorem vc_X11_bestBell_4 {R : Mem → Option AV → Prop} {k best s : Int} {μ : Mem} (H : r32 s ∧ r32 (bshl 1 (μ 201 43)) ∧ (((bshl 1 (μ 201 43)) ≤ s) → R μ (some (kI best))) ∧ (¬ ((bshl 1 (μ 201 43)) ≤ s) → (0 ≤ ((9 * s) + 8) ∧ ((9 * s) + 8) < 2304) ∧ r32 (μ 228 ((9 * s) + 8)) ∧ r32 k ∧ (((μ 228 ((9 * s) + 8)) ≤ k) → P_X11_bellWorth 201 s μ ∧ P_X11_bellWorth 201 best μ ∧ r32 ((F_X11_bellWorth 201 s μ) - (F_X11_bellWorth 201 best μ)) ∧ ((0 < ((F_X11_bellWorth 201 s μ) - (F_X11_bellWorth 201 best μ))) → V_X11_bestBell R 4 [(0, kR 201), (1, kI k), (2, kI s), (3, kI (s + 1))] μ) ∧ (¬ (0 < ((F_X11_bellWorth 201 s μ) - (F_X11_bellWorth 201 best μ))) → r32 ((F_X11_bellWorth 201 s μ) - (F_X11_bellWorth 201 best μ)) ∧ ((¬ ((F_X11_bellWorth 201 s μ) - (F_X11_bellWorth 201 best μ)) = 0) → V_X11_bestBell R 4 [(0, kR 201), (1, kI k), (2, kI best), (3, kI (s + 1))] μ) ∧ (¬ (¬ ((F_X11_bellWorth 201 s μ) - (F_X11_bellWorth 201 best μ)) = 0) → (0 ≤ ((9 * best) + 8) ∧ ((9 * best) + 8) < 2304) ∧ r32 (μ 228 ((9 * s) + 8)) ∧ r32 (μ 228 ((9 * best) + 8)) ∧ (((μ 228 ((9 * best) + 8)) ≤ (μ 228 ((9 * s) + 8))) → V_X11_bestBell R 4 [(0, kR 201), (1, kI k), (2, kI best), (3, kI (s + 1))] μ) ∧ (¬ ((μ 228 ((9 * best) + 8)) ≤ (μ 228 ((9 * s) + 8))) → V_X11_bestBell R 4 [(0, kR 201), (1, kI k), (2, kI s), (3, kI (s + 1))] μ)))) ∧ (¬ ((μ 228 ((9 * s) + 8)) ≤ k) → V_X11_bestBell R 4 [(0, kR 201), (1, kI k), (2, kI best), (3, kI (s + 1))] μ))) : V_X11_bestBell R 4 [(0, kR 201), (1, kI k), (2, kI best), (3, kI s)] μ := by
  refine vm_step2 mt_X11_bestBell ok_X11_bestBell [(4, [0, 1, 2, 3])] 1000 ?_
  show isC 201 11 ∧ (r32 s ∧ r32 (bshl 1 (μ 201 43))) ∧ (((bshl 1 (μ 201 43)) ≤ s) → R μ (some (kI best))) ∧ (¬ ((bshl 1 (μ 201 43)) ≤ s) → isC 201 11 ∧ inA 228 0 ((9 * s) + 8) ∧ (r32 (μ 228 ((9 * s) + 8)) ∧ r32 k) ∧ (((μ 228 ((9 * s) + 8)) ≤ k) → isC 201 11 ∧ P_X11_bellWorth 201 s μ ∧ isC 201 11 ∧ P_X11_bellWorth 201 best μ ∧ r32 ((F_X11_bellWorth 201 s μ) - (F_X11_bellWorth 201 best μ)) ∧ ((0 < ((F_X11_bellWorth 201 s μ) - (F_X11_bellWorth 201 best μ))) → V_X11_bestBell R 4 [(0, kR 201), (1, kI k), (2, kI s), (3, kI (s + 1))] μ) ∧ (¬ (0 < ((F_X11_bellWorth 201 s μ) - (F_X11_bellWorth 201 best μ))) → r32 ((F_X11_bellWorth 201 s μ) - (F_X11_bellWorth 201 best μ)) ∧ ((¬ ((F_X11_bellWorth 201 s μ) - (F_X11_bellWorth 201 best μ)) = 0) → V_X11_bestBell R 4 [(0, kR 201), (1, kI k), (2, kI best), (3, kI (s + 1))] μ) ∧ (¬ (¬ ((F_X11_bellWorth 201 s μ) - (F_X11_bellWorth 201 best μ)) = 0) → isC 201 11 ∧ inA 228 0 ((9 * best) + 8) ∧ (r32 (μ 228 ((9 * s) + 8)) ∧ r32 (μ 228 ((9 * best) + 8))) ∧ (((μ 228 ((9 * best) + 8)) ≤ (μ 228 ((9 * s) + 8))) → V_X11_bestBell R 4 [(0, kR 201), (1, kI k), (2, kI best), (3, kI (s + 1))] μ) ∧ (¬ ((μ 228 ((9 * best) + 8)) ≤ (μ 228 ((9 * s) + 8))) → V_X11_bestBell R 4 [(0, kR 201), (1, kI k), (2, kI s), (3, kI (s + 1))] μ)))) ∧ (¬ ((μ 228 ((9 * s) + 8)) ≤ k) → V_X11_bestBell R 4 [(0, kR 201), (1, kI k), (2, kI best), (3, kI (s + 1))] μ))
  exact ⟨c_201, ⟨⟨H.1, H.2.1⟩, fun hc5 => (H.2.2.1 hc5), fun hc5 => ⟨c_201, ⟨isArr.in a_228 (H.2.2.2 hc5).1.1 (H.2.2.2 hc5).1.2, ⟨⟨(H.2.2.2 hc5).2.1, (H.2.2.2 hc5).2.2.1⟩, fun hc4 => ⟨c_201, ((H.2.2.2 hc5).2.2.2.1 hc4).1, ⟨c_201, ((H.2.2.2 hc5).2.2.2.1 hc4).2.1, ⟨((H.2.2.2 hc5).2.2.2.1 hc4).2.2.1, fun hc3 => (((H.2.2.2 hc5).2.2.2.1 hc4).2.2.2.1 hc3), fun hc3 => ⟨(((H.2.2.2 hc5).2.2.2.1 hc4).2.2.2.2 hc3).1, fun hc2 => ((((H.2.2.2 hc5).2.2.2.1 hc4).2.2.2.2 hc3).2.1 hc2), fun hc2 => ⟨c_201, ⟨isArr.in a_228 ((((H.2.2.2 hc5).2.2.2.1 hc4).2.2.2.2 hc3).2.2 hc2).1.1 ((((H.2.2.2 hc5).2.2.2.1 hc4).2.2.2.2 hc3).2.2 hc2).1.2, ⟨⟨((((H.2.2.2 hc5).2.2.2.1 hc4).2.2.2.2 hc3).2.2 hc2).2.1, ((((H.2.2.2 hc5).2.2.2.1 hc4).2.2.2.2 hc3).2.2 hc2).2.2.1⟩, fun hc1 => (((((H.2.2.2 hc5).2.2.2.1 hc4).2.2.2.2 hc3).2.2 hc2).2.2.2.1 hc1), fun hc1 => (((((H.2.2.2 hc5).2.2.2.1 hc4).2.2.2.2 hc3).2.2 hc2).2.2.2.2 hc1)⟩⟩⟩⟩⟩⟩⟩, fun hc4 => ((H.2.2.2 hc5).2.2.2.2 hc4)⟩⟩⟩⟩⟩
theorem smell_bd {v : TV} (ok : TVok v) (x : Int) : 0 ≤ smellV v x ∧ smellV v x ≤ 9504 := by
  have hp := ok.1
  have := sm_bd (f := fun a => if hasB x a = true then v 4 a * v 5 a else 0) (n := v 0 0) (c := 0) (d := 1188) (fun a a0 a1 => by
    have h := ok.2.2.2.1 a a0 (by omega)
    have m := mul_bd h.1.1 h.1.2 (show 0 ≤ v 5 a by omega) h.2.1.2
    show 0 ≤ (if hasB x a = true then v 4 a * v 5 a else 0) ∧ (if hasB x a = true then v 4 a * v 5 a else 0) ≤ 1188
    split <;> omega) (by omega)
  unfold smellV
  omega
/-- the best is a set of cellars, with its numbers -/
theorem bst_ok {v : TV} {s k : Int} : ∀ n : Int, 0 ≤ n → n ≤ ((2 ^ (popc s).toNat : Nat) : Int) → ∃ t : Int, (0 ≤ t ∧ t < ((2 ^ (popc s).toNat : Nat) : Int)) ∧ ((bstB v s k n = (0, 0, 0) ∧ t = 0) ∨ bstB v s k n = (exS s t, smellV v (exS s t), spentV v (exS s t))) := by
  have pb := popc_bd (s := s)
  have p1 := pw2_le pb.1 pb.2
  refine nat_ind (P := fun n => n ≤ ((2 ^ (popc s).toNat : Nat) : Int) → ∃ t : Int, (0 ≤ t ∧ t < ((2 ^ (popc s).toNat : Nat) : Int)) ∧ ((bstB v s k n = (0, 0, 0) ∧ t = 0) ∨ bstB v s k n = (exS s t, smellV v (exS s t), spentV v (exS s t)))) (fun _ => ⟨0, by omega, Or.inl ⟨rfl, rfl⟩⟩) (fun n n0 ih hn => ?_)
  have e : bstB v s k (n + 1) = beS v k (bstB v s k n) (exS s n) := fold_s n0
  rw [e]
  unfold beS
  split
  · exact ⟨n, by omega, Or.inr rfl⟩
  · exact ih (by omega)
theorem spent_0 {v : TV} (hp : 0 ≤ v 0 0) : spentV v 0 = 0 := by
  unfold spentV
  rw [rcV_eq hp (by omega), dig_0 hp]
  rfl
theorem bst_st {v : TV} {s k : Int} (hp : 0 ≤ v 0 0) (n : Int) (n0 : 0 ≤ n) (n1 : n ≤ ((2 ^ (popc s).toNat : Nat) : Int)) : (0 ≤ coS s (bstB v s k n).1 ∧ coS s (bstB v s k n).1 < ((2 ^ (popc s).toNat : Nat) : Int)) ∧ exS s (coS s (bstB v s k n).1) = (bstB v s k n).1 ∧ smellV v (exS s (coS s (bstB v s k n).1)) = (bstB v s k n).2.1 ∧ spentV v (exS s (coS s (bstB v s k n).1)) = (bstB v s k n).2.2 := by
  have pb := popc_bd (s := s)
  have p1 := pw2_le pb.1 pb.2
  obtain ⟨t, ht, hh⟩ := bst_ok (v := v) (s := s) (k := k) n n0 n1
  rcases hh with ⟨e, e2⟩ | e
  · rw [e]
    have : coS s 0 = 0 := by
      have := co_of (s := s) (t := 0) (by omega) (by omega)
      rwa [ex_0] at this
    show (0 ≤ coS s 0 ∧ coS s 0 < _) ∧ exS s (coS s 0) = 0 ∧ smellV v (exS s (coS s 0)) = 0 ∧ spentV v (exS s (coS s 0)) = 0
    rw [this, ex_0]
    exact ⟨by omega, rfl, smell_0 hp, spent_0 hp⟩
  · rw [e]
    show (0 ≤ coS s (exS s t) ∧ coS s (exS s t) < _) ∧ exS s (coS s (exS s t)) = exS s t ∧ smellV v (exS s (coS s (exS s t))) = smellV v (exS s t) ∧ spentV v (exS s (coS s (exS s t))) = spentV v (exS s t)
    rw [co_of ht.1 ht.2]
    exact ⟨ht, rfl, rfl, rfl⟩
theorem body_X11_bestBell {o k : Int} {μ : Mem} {R : Mem → Option AV → Prop} (h : P_X11_bestBell o k μ) (hR : R μ (some (kI (F_X11_bestBell o k μ)))) : V_X11_bestBell R 0 [(0, kR o), (1, kI k)] μ := by
  obtain ⟨rfl, hk, hl, k9⟩ := h
  have f := hk.f
  have e43 := hk.2.1.1
  have vok : VOk (vm μ) := hk.1.2.2
  have p1 := pw2_le f.2.2.1.1 f.2.2.1.2
  have es := b_shl (k := popc (celM μ)) (by omega) (by omega)
  have ecel : celM μ = cellV (vm μ) := rfl
  have sp : ∀ t : Int, 0 ≤ t → t < ((2 ^ (popc (celM μ)).toNat : Nat) : Int) → μ 228 (9 * t + 8) = spentV (vm μ) (exS (celM μ) t) := fun t t0 t1 => hl t 8 t0 t1 (Or.inl rfl)
  have spb : ∀ t : Int, 0 ≤ spentV (vm μ) (exS (celM μ) t) ∧ spentV (vm μ) (exS (celM μ) t) ≤ 2000 := fun t => rs_bd (s := celM μ) (t := t) (fm := 0) vok (by omega) (by omega)
  have subt : ∀ t : Int, subB (exS (celM μ) t) (cellV (vm μ)) = true := fun t => (subB_iff ex_bd.1 ex_bd.2 f.2.2.2.1.1 f.2.2.2.1.2).mpr ex_sub
  have sp0 : spentV (vm μ) 0 = 0 := spent_0 (by omega)
  -- the set at hand and its numbers
  have st := fun n n0 n1 => bst_st (v := vm μ) (s := celM μ) (k := k) (by omega) n n0 n1
  refine vc_X11_bestBell_0 ?_
  have key := up_ind (P := fun t => V_X11_bestBell R 4 [(0, kR 201), (1, kI k), (2, kI (coS (celM μ) (bstB (vm μ) (celM μ) k t).1)), (3, kI t)] μ) (lo := 1) (hi := ((2 ^ (popc (celM μ)).toNat : Nat) : Int)) ?_ ?_
  · have := key 1 (Int.le_refl _) p1.1
    have e1 : coS (celM μ) (bstB (vm μ) (celM μ) k 1).1 = 0 := by
      have e : bstB (vm μ) (celM μ) k 1 = beS (vm μ) k (0, 0, 0) (exS (celM μ) 0) := rfl
      rw [e, ex_0]
      unfold beS
      rw [smell_0 (by omega), sp0, if_neg (by show ¬ (_ ∧ _ ∧ ((0 : Int) < 0 ∨ ((0 : Int) = 0 ∧ (0 : Int) < 0))); omega)]
      have := co_of (s := celM μ) (t := 0) (by omega) (by omega)
      rwa [ex_0] at this
    rw [e1] at this
    exact this
  · intro t t0 t1 ih
    have e : bstB (vm μ) (celM μ) k (t + 1) = beS (vm μ) k (bstB (vm μ) (celM μ) k t) (exS (celM μ) t) := fold_s (by omega)
    obtain ⟨hc, _, hsm, hsp⟩ := st t (by omega) (by omega)
    have sbt := smell_bd f.1 (exS (celM μ) t)
    have sbc := smell_bd f.1 (exS (celM μ) (coS (celM μ) (bstB (vm μ) (celM μ) k t).1))
    have spt := spb t
    have spc := spb (coS (celM μ) (bstB (vm μ) (celM μ) k t).1)
    have cot := co_of (s := celM μ) (t := t) (by omega) t1
    rw [e] at ih
    have take : (spentV (vm μ) (exS (celM μ) t) ≤ k ∧ ((bstB (vm μ) (celM μ) k t).2.1 < smellV (vm μ) (exS (celM μ) t) ∨ (smellV (vm μ) (exS (celM μ) t) = (bstB (vm μ) (celM μ) k t).2.1 ∧ spentV (vm μ) (exS (celM μ) t) < (bstB (vm μ) (celM μ) k t).2.2))) → V_X11_bestBell R 4 [(0, kR 201), (1, kI k), (2, kI t), (3, kI (t + 1))] μ := fun hh => by
      unfold beS at ih
      rw [if_pos ⟨subt t, hh⟩] at ih
      rw [cot] at ih
      exact ih
    have keep : ¬ (spentV (vm μ) (exS (celM μ) t) ≤ k ∧ ((bstB (vm μ) (celM μ) k t).2.1 < smellV (vm μ) (exS (celM μ) t) ∨ (smellV (vm μ) (exS (celM μ) t) = (bstB (vm μ) (celM μ) k t).2.1 ∧ spentV (vm μ) (exS (celM μ) t) < (bstB (vm μ) (celM μ) k t).2.2))) → V_X11_bestBell R 4 [(0, kR 201), (1, kI k), (2, kI (coS (celM μ) (bstB (vm μ) (celM μ) k t).1)), (3, kI (t + 1))] μ := fun hh => by
      unfold beS at ih
      rw [if_neg (fun q => hh q.2)] at ih
      exact ih
    refine vc_X11_bestBell_4 ?_
    unfold F_X11_bellWorth
    rw [e43, es, sp t (by omega) t1, sp _ hc.1 hc.2]
    rw [hsm] at sbc
    rw [hsp] at spc
    rw [hsm, hsp]
    have hPt : P_X11_bellWorth 201 t μ := ⟨rfl, hk, by omega, by omega⟩
    have hPc : P_X11_bellWorth 201 (coS (celM μ) (bstB (vm μ) (celM μ) k t).1) μ := ⟨rfl, hk, by omega, by omega⟩
    generalize bstB (vm μ) (celM μ) k t = S at take keep sbc spc hPc hc ⊢
    exact ⟨rr (by omega), rr (by omega), fun c => absurd c (by omega), fun _ => ⟨by omega, rr (by omega), rr (by omega), fun c => ⟨hPt, hPc, rr (by omega), fun c2 => take ⟨c, Or.inl (by omega)⟩, fun c2 => ⟨rr (by omega), fun c3 => keep (fun q => by rcases q.2 with q | q <;> omega), fun c3 => ⟨by omega, rr (by omega), rr (by omega), fun c4 => keep (fun q => by rcases q.2 with q | q <;> omega), fun c4 => take ⟨c, Or.inr ⟨by omega, by omega⟩⟩⟩⟩⟩, fun c => keep (fun q => absurd q.1 c)⟩⟩
  · refine vc_X11_bestBell_4 ?_
    rw [e43, es]
    exact ⟨rr (by omega), rr (by omega), fun _ => hR, fun c => absurd (Int.le_refl _) c⟩
theorem ct_X11_bestBell : Ct mX11_bestBell 2 44 0 0 (nrmS S_X11_bestBell) := by
  refine ct_vm (own := RX11) (by decide +kernel) rfl ?_ ?_
  · intro as μ Q hS
    unfold S_X11_bestBell at hS
    split at hS
    · exact Nat.le_of_ble_eq_true rfl
    · exact hS.elim
  · intro as μ R hS
    unfold S_X11_bestBell at hS
    split at hS
    · exact body_X11_bestBell hS.1 hS.2
    · exact hS.elim
def P_X11_bellAt (o s0 k : Int) (μ : Mem) : Prop := o = 201 ∧ BK μ ∧ LSb μ ∧ (0 ≤ s0 ∧ s0 < ((2 ^ (popc (celM μ)).toNat : Nat) : Int)) ∧ r32 k
def F_X11_bellAt (_ s0 k : Int) (μ : Mem) : Int := stopV (wayV (vm μ)) oneV (vm μ 0 0) (exS (celM μ) s0) k
def S_X11_bellAt : S0t := fun as μ Q => match as with
  | [(2, x0), (0, x1), (0, x2)] => P_X11_bellAt x0 x1 x2 μ ∧ Q μ (some (kI (F_X11_bellAt x0 x1 x2 μ)))
  | _ => False
theorem mono_X11_bellAt : Mono S_X11_bellAt := by
  intro as μ Q Q' h hS
  unfold S_X11_bellAt at hS ⊢
  split at hS
  · exact ⟨hS.1, h _ _ hS.2⟩
  · exact hS.elim
def iX11_bellAt : Inf := (kX11_bellAt, fTX11, pTX11, cTX11, lTX11, sTX11, [(393, 0, 2, 11, S_X11_stepTo)])
theorem ok_X11_bellAt : infOK iX11_bellAt mX11_bellAt RX11 2 43 := ⟨kkX11_bellAt, fTX11_ok, pTX11_ok _, cTX11_ok, lTX11_ok, sTX11_ok, c_cons ⟨mX11_stepTo, 1, 21, ct_X11_stepTo, mmX11_stepTo, vvX11_stepTo, lkX11_393, ⟨by decide, by decide⟩, ⟨_, _, rfl⟩, by decide, mono_X11_stepTo⟩ (c_nil)⟩
theorem mt_X11_bellAt : mtOK [] RX11 2 43 := mt_nil
abbrev V_X11_bellAt (R : Mem → Option AV → Prop) (pc : Nat) (lc : List (Nat × AV)) (μ : Mem) : Prop := VM mX11_bellAt RX11 2 43 R pc lc [] μ
set_option maxRecDepth 20000 in
theorem vc_X11_bellAt_0 {R : Mem → Option AV → Prop} {s0 k : Int} {μ : Mem} (H : V_X11_bellAt R 9 [(0, kR 201), (2, kI k), (3, kI s0), (4, kI 8), (5, kI 0)] μ) : V_X11_bellAt R 0 [(0, kR 201), (1, kI s0), (2, kI k)] μ := by
  refine vm_step2 mt_X11_bellAt ok_X11_bellAt [(9, [0, 2, 3, 4, 5]), (16, [0, 2, 3, 4, 5, 6])] 1000 ?_
  show V_X11_bellAt R 9 [(0, kR 201), (2, kI k), (3, kI s0), (4, kI 8), (5, kI 0)] μ
  exact H
set_option maxRecDepth 20000 in
theorem vc_X11_bellAt_9 {R : Mem → Option AV → Prop} {k s fm i : Int} {μ : Mem} (H : r32 s ∧ ((s = 0) → R μ (some (kI (-1)))) ∧ (¬ (s = 0) → V_X11_bellAt R 16 [(0, kR 201), (2, kI k), (3, kI s), (4, kI fm), (5, kI i), (6, kI 0)] μ)) : V_X11_bellAt R 9 [(0, kR 201), (2, kI k), (3, kI s), (4, kI fm), (5, kI i)] μ := by
  refine vm_step2 mt_X11_bellAt ok_X11_bellAt [(9, [0, 2, 3, 4, 5]), (16, [0, 2, 3, 4, 5, 6])] 1000 ?_
  show r32 s ∧ ((s = 0) → R μ (some (kI (-1)))) ∧ (¬ (s = 0) → V_X11_bellAt R 16 [(0, kR 201), (2, kI k), (3, kI s), (4, kI fm), (5, kI i), (6, kI 0)] μ)
  exact ⟨H.1, fun hc1 => (H.2.1 hc1), fun hc1 => (H.2.2 hc1)⟩
set_option maxRecDepth 20000 in
theorem vc_X11_bellAt_16 {R : Mem → Option AV → Prop} {k s fm i to_ : Int} {μ : Mem} (H : r32 (band (bshr s to_) 1) ∧ (((band (bshr s to_) 1) = 0) → V_X11_bellAt R 16 [(0, kR 201), (2, kI k), (3, kI s), (4, kI fm), (5, kI i), (6, kI (to_ + 1))] μ) ∧ (¬ ((band (bshr s to_) 1) = 0) → P_X11_stepTo 201 fm to_ μ ∧ (0 ≤ ((9 * (band s (bxor (bshl 1 to_) (-1)))) + to_) ∧ ((9 * (band s (bxor (bshl 1 to_) (-1)))) + to_) < 2304) ∧ (0 ≤ ((9 * s) + fm) ∧ ((9 * s) + fm) < 2304) ∧ r32 ((F_X11_stepTo 201 fm to_ μ) + (μ 228 ((9 * (band s (bxor (bshl 1 to_) (-1)))) + to_))) ∧ r32 (μ 228 ((9 * s) + fm)) ∧ ((((F_X11_stepTo 201 fm to_ μ) + (μ 228 ((9 * (band s (bxor (bshl 1 to_) (-1)))) + to_))) = (μ 228 ((9 * s) + fm))) → r32 i ∧ r32 k ∧ ((¬ i = k) → V_X11_bellAt R 9 [(0, kR 201), (2, kI k), (3, kI (band s (bxor (bshl 1 to_) (-1)))), (4, kI to_), (5, kI (i + 1))] μ) ∧ (¬ (¬ i = k) → (0 ≤ to_ ∧ to_ < 8) ∧ R μ (some (kI (μ 227 to_))))) ∧ (¬ (((F_X11_stepTo 201 fm to_ μ) + (μ 228 ((9 * (band s (bxor (bshl 1 to_) (-1)))) + to_))) = (μ 228 ((9 * s) + fm))) → V_X11_bellAt R 16 [(0, kR 201), (2, kI k), (3, kI s), (4, kI fm), (5, kI i), (6, kI (to_ + 1))] μ))) : V_X11_bellAt R 16 [(0, kR 201), (2, kI k), (3, kI s), (4, kI fm), (5, kI i), (6, kI to_)] μ := by
  refine vm_step2 mt_X11_bellAt ok_X11_bellAt [(9, [0, 2, 3, 4, 5]), (16, [0, 2, 3, 4, 5, 6])] 1000 ?_
  show r32 (band (bshr s to_) 1) ∧ (((band (bshr s to_) 1) = 0) → V_X11_bellAt R 16 [(0, kR 201), (2, kI k), (3, kI s), (4, kI fm), (5, kI i), (6, kI (to_ + 1))] μ) ∧ (¬ ((band (bshr s to_) 1) = 0) → isC 201 11 ∧ P_X11_stepTo 201 fm to_ μ ∧ isC 201 11 ∧ inA 228 0 ((9 * (band s (bxor (bshl 1 to_) (-1)))) + to_) ∧ isC 201 11 ∧ inA 228 0 ((9 * s) + fm) ∧ (r32 ((F_X11_stepTo 201 fm to_ μ) + (μ 228 ((9 * (band s (bxor (bshl 1 to_) (-1)))) + to_))) ∧ r32 (μ 228 ((9 * s) + fm))) ∧ ((((F_X11_stepTo 201 fm to_ μ) + (μ 228 ((9 * (band s (bxor (bshl 1 to_) (-1)))) + to_))) = (μ 228 ((9 * s) + fm))) → (r32 i ∧ r32 k) ∧ ((¬ i = k) → V_X11_bellAt R 9 [(0, kR 201), (2, kI k), (3, kI (band s (bxor (bshl 1 to_) (-1)))), (4, kI to_), (5, kI (i + 1))] μ) ∧ (¬ (¬ i = k) → isC 201 11 ∧ inA 227 0 to_ ∧ R μ (some (kI (μ 227 to_))))) ∧ (¬ (((F_X11_stepTo 201 fm to_ μ) + (μ 228 ((9 * (band s (bxor (bshl 1 to_) (-1)))) + to_))) = (μ 228 ((9 * s) + fm))) → V_X11_bellAt R 16 [(0, kR 201), (2, kI k), (3, kI s), (4, kI fm), (5, kI i), (6, kI (to_ + 1))] μ))
  exact ⟨H.1, fun hc4 => (H.2.1 hc4), fun hc4 => ⟨c_201, (H.2.2 hc4).1, ⟨c_201, ⟨isArr.in a_228 (H.2.2 hc4).2.1.1 (H.2.2 hc4).2.1.2, ⟨c_201, ⟨isArr.in a_228 (H.2.2 hc4).2.2.1.1 (H.2.2 hc4).2.2.1.2, ⟨⟨(H.2.2 hc4).2.2.2.1, (H.2.2 hc4).2.2.2.2.1⟩, fun hc3 => ⟨⟨((H.2.2 hc4).2.2.2.2.2.1 hc3).1, ((H.2.2 hc4).2.2.2.2.2.1 hc3).2.1⟩, fun hc2 => (((H.2.2 hc4).2.2.2.2.2.1 hc3).2.2.1 hc2), fun hc2 => ⟨c_201, ⟨isArr.in a_227 (((H.2.2 hc4).2.2.2.2.2.1 hc3).2.2.2 hc2).1.1 (((H.2.2 hc4).2.2.2.2.2.1 hc3).2.2.2 hc2).1.2, (((H.2.2 hc4).2.2.2.2.2.1 hc3).2.2.2 hc2).2⟩⟩⟩, fun hc3 => ((H.2.2 hc4).2.2.2.2.2.2 hc3)⟩⟩⟩⟩⟩⟩⟩
theorem body_X11_bellAt {o s0 k : Int} {μ : Mem} {R : Mem → Option AV → Prop} (h : P_X11_bellAt o s0 k μ) (hR : R μ (some (kI (F_X11_bellAt o s0 k μ)))) : V_X11_bellAt R 0 [(0, kR o), (1, kI s0), (2, kI k)] μ := by
  obtain ⟨rfl, hk, hl, hs0, rk⟩ := h
  have f := hk.f
  have vok : VOk (vm μ) := hk.1.2.2
  have p1 := pw2_le f.2.2.1.1 f.2.2.1.2
  have rin := rtV_in (W := wayV (vm μ)) (r := oneV) (n := vm μ 0 0) (g := exS (celM μ) s0) (by omega) f.2.1.2 ex_bd.1 ex_bd.2 (fun a a0 a1 q => f.2.2.2.2.1 a a0 a1 (ex_hasp a0 q).2.1)
  have pg := popc_bd (s := exS (celM μ) s0)
  unfold F_X11_bellAt at hR
  refine vc_X11_bellAt_0 ?_
  refine up_ind (P := fun i => ∀ t fm : Int, (0 ≤ t ∧ t < ((2 ^ (popc (celM μ)).toNat : Nat) : Int)) → (fm = 8 ∨ (0 ≤ fm ∧ fm < popc (celM μ))) → rtV (wayV (vm μ)) oneV (vm μ 0 0) (exS (celM μ) s0) i = (plB μ fm, exS (celM μ) t) → (k < 0 ∨ i ≤ k) → V_X11_bellAt R 9 [(0, kR 201), (2, kI k), (3, kI t), (4, kI fm), (5, kI i)] μ) (lo := 0) (hi := popc (exS (celM μ) s0)) ?_ ?_ 0 (by omega) (by omega) s0 8 hs0 (Or.inl rfl) rfl (by omega)
  · intro i i0 i1 ih t fm ht hf hrt hik
    have ri := rin i.toNat (by omega)
    rw [Int.toNat_of_nonneg i0, hrt] at ri
    have tn : t ≠ 0 := fun q => by
      have h4 : popc (exS (celM μ) t) = popc (exS (celM μ) s0) - i := ri.2.2.2
      rw [q, ex_0, popc_0] at h4
      omega
    have hpl := f.2.2.2.2.2.2 fm hf
    have rl0 := rc_lst (W := wayV (vm μ)) (r := oneV) (n := vm μ 0 0) (s := celM μ) (t := t) (fm := plB μ fm) (by omega) f.2.1.2 f.2.2.2.2.1 ht.1 tn ht.2
    obtain ⟨G, hG⟩ : ∃ G : Int → Int, G = bG (vm μ) (celM μ) (plB μ fm) t := ⟨_, rfl⟩
    have eg : (fun k => wayV (vm μ) (plB μ fm) (mthV (celM μ) k) * oneV (exS (celM μ) t) + rcV (wayV (vm μ)) oneV (vm μ 0 0) (mthV (celM μ) k) (exS (celM μ) (remS t k))) = G := hG.symm
    rw [eg] at rl0
    have e8f := hl t fm ht.1 ht.2 hf
    have gb := fun k k0 k1 => bG_bd (t := t) (k := k) vok f.2.2.2.2.1 hpl.1 hpl.2 k0 k1
    rw [← hG] at gb
    have db := dig_bd f.1 (exS (celM μ) t)
    rcases mnF_cases (q := hasB t) (f := G) (n := popc (celM μ)) f.2.2.1.1 with ⟨e, _⟩ | ⟨j, hj, e, hjb, hmin, hfirst⟩
    · have := rl0.2.1.1
      rw [e] at this
      exact absurd this (by decide)
    rw [e] at rl0
    obtain ⟨r1, r2, r3⟩ := rl0
    have r1' : G j = rcV (wayV (vm μ)) oneV (vm μ 0 0) (plB μ fm) (exS (celM μ) t) := r1
    have r3' : (rcS (wayV (vm μ)) oneV (vm μ 0 0) (rcV (wayV (vm μ)) oneV (vm μ 0 0)) (plB μ fm) (exS (celM μ) t)).2 = mthV (celM μ) j := r3
    have rb0 := gb j hj.1 hj.2
    have ers : rsM (vm μ) (celM μ) (plB μ fm) t = G j + digV (vm μ) (exS (celM μ) t) := by unfold rsM; rw [r1']
    have step : ∀ to : Int, 0 ≤ to → to < popc (celM μ) → ((hasB t to = false → V_X11_bellAt R 16 [(0, kR 201), (2, kI k), (3, kI t), (4, kI fm), (5, kI i), (6, kI (to + 1))] μ) ∧ (hasB t to = true → ((G to = G j) → r32 i ∧ r32 k ∧ ((¬ i = k) → V_X11_bellAt R 9 [(0, kR 201), (2, kI k), (3, kI (remS t to)), (4, kI to), (5, kI (i + 1))] μ) ∧ (¬ (¬ i = k) → (0 ≤ to ∧ to < 8) ∧ R μ (some (kI (μ 227 to))))) ∧ (¬ (G to = G j) → V_X11_bellAt R 16 [(0, kR 201), (2, kI k), (3, kI t), (4, kI fm), (5, kI i), (6, kI (to + 1))] μ))) → V_X11_bellAt R 16 [(0, kR 201), (2, kI k), (3, kI t), (4, kI fm), (5, kI i), (6, kI to)] μ := by
      intro to t0 t1 hyp
      have et := b_tst (s := t) (a := to) ht.1 (by omega) t0 (by omega)
      have erem := b_rem (s := t) (a := to) ht.1 (by omega) t0 (by omega)
      refine vc_X11_bellAt_16 ?_
      rw [et]
      by_cases hbit : hasB t to = true
      · have rb := rem_bd (s := t) (a := to) ht.1
        have rl' := rem_lt ht.1 t0 hbit
        have e8 := hl (remS t to) to rb.1 (by omega) (Or.inr ⟨t0, t1⟩)
        have ev8 : plB μ to = mthV (celM μ) to := by unfold plB; rw [if_neg (by omega)]
        have st := bG_step (v := vm μ) (s := celM μ) (fm := plB μ fm) (t := t) (k := to) f.2.1.2 f.2.2.2.2.1 t0 t1 hbit
        rw [← hG] at st
        have eS : F_X11_stepTo 201 fm to μ = wayV (vm μ) (plB μ fm) (mthV (celM μ) to) + vm μ 6 (mthV (celM μ) to) := rfl
        rw [if_pos hbit, erem, eS, e8, ev8, st, e8f, ers]
        have gbk := gb to t0 t1
        have hyp2 := hyp.2 hbit
        exact ⟨rr (by omega), fun c => absurd c (by omega), fun _ => ⟨⟨rfl, hk, hf, t0, t1⟩, by omega, by omega, rr (by omega), rr (by omega), fun q => hyp2.1 (by omega), fun q => hyp2.2 (by omega)⟩⟩
      · have hb' : hasB t to = false := by simpa using hbit
        rw [if_neg hbit]
        exact ⟨rr (by omega), fun _ => hyp.1 hb', fun c => absurd rfl c⟩
    refine vc_X11_bellAt_9 ⟨rr (by omega), fun c => absurd c tn, fun _ => ?_⟩
    refine up_ind (P := fun to => V_X11_bellAt R 16 [(0, kR 201), (2, kI k), (3, kI t), (4, kI fm), (5, kI i), (6, kI to)] μ) (lo := 0) (hi := j) ?_ ?_ 0 (by omega) hj.1
    · intro to t0 t1 iht
      refine step to t0 (by omega) ⟨fun _ => iht, fun hbit => ⟨fun q => ?_, fun _ => iht⟩⟩
      have := hfirst to t0 t1 hbit
      omega
    · refine step j hj.1 hj.2 ⟨fun q => absurd q (by rw [hjb]; decide), fun _ => ⟨fun _ => ⟨rr (by omega), rk, fun q => ?_, fun q => ⟨by omega, r_eq hR ?_⟩⟩, fun q => absurd rfl q⟩⟩
      · have rb := rem_bd (s := t) (a := j) ht.1
        refine ih (remS t j) j (by omega) (Or.inr hj) ?_ (by omega)
        rw [rtV_s i0, hrt]
        unfold stpV
        rw [r3', ex_rem hj.1 hj.2]
        have : plB μ j = mthV (celM μ) j := by unfold plB; rw [if_neg (by omega)]
        rw [this]
      · have hik' : i = k := Classical.byContradiction q
        unfold stopV
        rw [← hik', if_pos ⟨i0, i1⟩, rtV_s i0, hrt]
        unfold stpV
        rw [r3', hk.2.1.2 j hj.1 hj.2]
  · intro t fm ht hf hrt hik
    have ri := rin (popc (exS (celM μ) s0)).toNat (by omega)
    rw [Int.toNat_of_nonneg pg.1, hrt] at ri
    have t0 : t = 0 := by
      have h4 : popc (exS (celM μ) t) = popc (exS (celM μ) s0) - popc (exS (celM μ) s0) := ri.2.2.2
      have h5 := popc_zero (s := exS (celM μ) t) ex_bd.1 ex_bd.2 (by omega)
      refine Classical.byContradiction fun q => ?_
      have := ex_mono (s := celM μ) (t := 0) (t' := t) (by omega) (by omega) ht.2
      rw [ex_0] at this
      omega
    refine vc_X11_bellAt_9 ⟨rr (by omega), fun _ => r_eq hR ?_, fun q => absurd t0 q⟩
    unfold stopV
    rw [if_neg (by omega)]
theorem ct_X11_bellAt : Ct mX11_bellAt 2 43 0 0 (nrmS S_X11_bellAt) := by
  refine ct_vm (own := RX11) (by decide +kernel) rfl ?_ ?_
  · intro as μ Q hS
    unfold S_X11_bellAt at hS
    split at hS
    · exact Nat.le_of_ble_eq_true rfl
    · exact hS.elim
  · intro as μ R hS
    unfold S_X11_bellAt at hS
    split at hS
    · exact body_X11_bellAt hS.1 hS.2
    · exact hS.elim
def P_X11_bell (o n a k : Int) (μ : Mem) : Prop := o = 201 ∧ SOk (stM μ) ∧ r32 n ∧ r32 a ∧ r32 k
def Q_X11_bell (_ n a k : Int) (μ μ' : Mem) (r : Int) : Prop := AskM μ μ' ∧ r = onT (stM μ).1 n (-1) (bellT a k)
def S_X11_bell : S0t := fun as μ Q => match as with
  | [(2, x0), (0, x1), (0, x2), (0, x3)] => P_X11_bell x0 x1 x2 x3 μ ∧ ∀ (μ' : Mem) (r : Int), Q_X11_bell x0 x1 x2 x3 μ μ' r → Q μ' (some (kI r))
  | _ => False
theorem mono_X11_bell : Mono S_X11_bell := by
  intro as μ Q Q' h hS
  unfold S_X11_bell at hS ⊢
  split at hS
  · exact ⟨hS.1, fun μ' r q => h _ _ (hS.2 _ _ q)⟩
  · exact hS.elim
def iX11_bell : Inf := (kX11_bell, fTX11, pTX11, cTX11, lTX11, sTX11, [(234, 0, 1, 11, S_X11_looks), (162, 1, 3, 0, S_X11_isIn), (399, 0, 0, 11, S_X11_rings), (402, 0, 1, 11, S_X11_bestBell), (405, 0, 2, 11, S_X11_bellAt), (396, 0, 1, 11, S_X11_bellWorth)])
theorem ok_X11_bell : infOK iX11_bell mX11_bell RX11 3 69 := ⟨kkX11_bell, fTX11_ok, pTX11_ok _, cTX11_ok, lTX11_ok, sTX11_ok, c_cons ⟨mX11_looks, 2, 45, ct_X11_looks, mmX11_looks, vvX11_looks, lkX11_234, ⟨by decide, by decide⟩, ⟨_, _, rfl⟩, by decide, mono_X11_looks⟩ (c_cons ⟨mX11_isIn, 0, 0, ct_X11_isIn, mmX11_isIn, stX11_isIn, lkX11_162, ⟨by decide, by decide⟩, mono_X11_isIn⟩ (c_cons ⟨mX11_rings, 2, 43, ct_X11_rings, mmX11_rings, vvX11_rings, lkX11_399, ⟨by decide, by decide⟩, ⟨_, _, rfl⟩, by decide, mono_X11_rings⟩ (c_cons ⟨mX11_bestBell, 2, 44, ct_X11_bestBell, mmX11_bestBell, vvX11_bestBell, lkX11_402, ⟨by decide, by decide⟩, ⟨_, _, rfl⟩, by decide, mono_X11_bestBell⟩ (c_cons ⟨mX11_bellAt, 2, 43, ct_X11_bellAt, mmX11_bellAt, vvX11_bellAt, lkX11_405, ⟨by decide, by decide⟩, ⟨_, _, rfl⟩, by decide, mono_X11_bellAt⟩ (c_cons ⟨mX11_bellWorth, 1, 21, ct_X11_bellWorth, mmX11_bellWorth, vvX11_bellWorth, lkX11_396, ⟨by decide, by decide⟩, ⟨_, _, rfl⟩, by decide, mono_X11_bellWorth⟩ (c_nil))))))⟩
theorem mt_X11_bell : mtOK [] RX11 3 69 := mt_nil
abbrev V_X11_bell (R : Mem → Option AV → Prop) (pc : Nat) (lc : List (Nat × AV)) (μ : Mem) : Prop := VM mX11_bell RX11 3 69 R pc lc [] μ
set_option maxRecDepth 20000 in
theorem vc_X11_bell_0 {R : Mem → Option AV → Prop} {n a k : Int} {μ : Mem} (H : P_X11_looks 201 n μ ∧ (∀ (μ1 : Mem) (rv2 : Int), Q_X11_looks 201 n μ μ1 rv2 → r32 rv2 ∧ ((rv2 = 0) → R μ1 (some (kI (-1)))) ∧ (¬ (rv2 = 0) → P_X11_isIn a 0 999 μ1 ∧ r32 (F_X11_isIn a 0 999 μ1) ∧ (((F_X11_isIn a 0 999 μ1) = 0) → R μ1 (some (kI (-1)))) ∧ (¬ ((F_X11_isIn a 0 999 μ1) = 0) → r32 k ∧ ((0 ≤ k) → P_X11_rings 201 μ1 ∧ (∀ (μ4 : Mem), Q_X11_rings 201 μ1 μ4 → P_X11_bestBell 201 a μ4 ∧ V_X11_bell R 42 [(0, kR 201), (3, kI k), (4, kI (F_X11_bestBell 201 a μ4)), (5, kI 0), (6, kI 0)] μ4)) ∧ (¬ (0 ≤ k) → R μ1 (some (kI (-1)))))))) : V_X11_bell R 0 [(0, kR 201), (1, kI n), (2, kI a), (3, kI k)] μ := by
  refine vm_step2 mt_X11_bell ok_X11_bell [(42, [0, 3, 4, 5, 6])] 1000 ?_
  show isC 201 11 ∧ P_X11_looks 201 n μ ∧ (∀ (μ1 : Mem) (rv2 : Int), Q_X11_looks 201 n μ μ1 rv2 → r32 rv2 ∧ ((rv2 = 0) → R μ1 (some (kI (-1)))) ∧ (¬ (rv2 = 0) → P_X11_isIn a 0 999 μ1 ∧ r32 (F_X11_isIn a 0 999 μ1) ∧ (((F_X11_isIn a 0 999 μ1) = 0) → R μ1 (some (kI (-1)))) ∧ (¬ ((F_X11_isIn a 0 999 μ1) = 0) → r32 k ∧ ((0 ≤ k) → isC 201 11 ∧ P_X11_rings 201 μ1 ∧ (∀ (μ4 : Mem), Q_X11_rings 201 μ1 μ4 → isC 201 11 ∧ P_X11_bestBell 201 a μ4 ∧ V_X11_bell R 42 [(0, kR 201), (3, kI k), (4, kI (F_X11_bestBell 201 a μ4)), (5, kI 0), (6, kI 0)] μ4)) ∧ (¬ (0 ≤ k) → R μ1 (some (kI (-1)))))))
  exact ⟨c_201, H.1, fun μ1 rv2 hq3 => ⟨(H.2 μ1 rv2 hq3).1, fun hc9 => ((H.2 μ1 rv2 hq3).2.1 hc9), fun hc9 => ⟨((H.2 μ1 rv2 hq3).2.2 hc9).1, ⟨((H.2 μ1 rv2 hq3).2.2 hc9).2.1, fun hc8 => (((H.2 μ1 rv2 hq3).2.2 hc9).2.2.1 hc8), fun hc8 => ⟨(((H.2 μ1 rv2 hq3).2.2 hc9).2.2.2 hc8).1, fun hc7 => ⟨c_201, ((((H.2 μ1 rv2 hq3).2.2 hc9).2.2.2 hc8).2.1 hc7).1, fun μ4 hq6 => ⟨c_201, (((((H.2 μ1 rv2 hq3).2.2 hc9).2.2.2 hc8).2.1 hc7).2 μ4 hq6).1, (((((H.2 μ1 rv2 hq3).2.2 hc9).2.2.2 hc8).2.1 hc7).2 μ4 hq6).2⟩⟩, fun hc7 => ((((H.2 μ1 rv2 hq3).2.2 hc9).2.2.2 hc8).2.2 hc7)⟩⟩⟩⟩⟩
set_option maxRecDepth 20000 in
theorem vc_X11_bell_42 {R : Mem → Option AV → Prop} {k s bits i : Int} {μ : Mem} (H : r32 i ∧ r32 (μ 201 43) ∧ (((μ 201 43) ≤ i) → r32 k ∧ ((¬ k = 0) → r32 k ∧ ((¬ k = (1 : Int)) → r32 k ∧ ((¬ k = (2 : Int)) → P_X11_bellAt 201 s (k - 3) μ ∧ R μ (some (kI (F_X11_bellAt 201 s (k - 3) μ)))) ∧ (¬ (¬ k = (2 : Int)) → R μ (some (kI bits)))) ∧ (¬ (¬ k = (1 : Int)) → (0 ≤ ((9 * s) + 8) ∧ ((9 * s) + 8) < 2304) ∧ R μ (some (kI (μ 228 ((9 * s) + 8)))))) ∧ (¬ (¬ k = 0) → P_X11_bellWorth 201 s μ ∧ R μ (some (kI (F_X11_bellWorth 201 s μ))))) ∧ (¬ ((μ 201 43) ≤ i) → r32 (band (bshr s i) 1) ∧ ((¬ (band (bshr s i) 1) = (1 : Int)) → V_X11_bell R 42 [(0, kR 201), (3, kI k), (4, kI s), (5, kI (bor bits 0)), (6, kI (i + 1))] μ) ∧ (¬ (¬ (band (bshr s i) 1) = (1 : Int)) → (0 ≤ i ∧ i < 8) ∧ V_X11_bell R 42 [(0, kR 201), (3, kI k), (4, kI s), (5, kI (bor bits (bshl 1 (μ 227 i)))), (6, kI (i + 1))] μ))) : V_X11_bell R 42 [(0, kR 201), (3, kI k), (4, kI s), (5, kI bits), (6, kI i)] μ := by
  refine vm_step2 mt_X11_bell ok_X11_bell [(42, [0, 3, 4, 5, 6])] 1000 ?_
  show isC 201 11 ∧ (r32 i ∧ r32 (μ 201 43)) ∧ (((μ 201 43) ≤ i) → r32 k ∧ ((¬ k = 0) → (r32 k ∧ r32 (1 : Int)) ∧ ((¬ k = (1 : Int)) → (r32 k ∧ r32 (2 : Int)) ∧ ((¬ k = (2 : Int)) → isC 201 11 ∧ P_X11_bellAt 201 s (k - 3) μ ∧ R μ (some (kI (F_X11_bellAt 201 s (k - 3) μ)))) ∧ (¬ (¬ k = (2 : Int)) → R μ (some (kI bits)))) ∧ (¬ (¬ k = (1 : Int)) → isC 201 11 ∧ inA 228 0 ((9 * s) + 8) ∧ R μ (some (kI (μ 228 ((9 * s) + 8)))))) ∧ (¬ (¬ k = 0) → isC 201 11 ∧ P_X11_bellWorth 201 s μ ∧ R μ (some (kI (F_X11_bellWorth 201 s μ))))) ∧ (¬ ((μ 201 43) ≤ i) → (r32 (band (bshr s i) 1) ∧ r32 (1 : Int)) ∧ ((¬ (band (bshr s i) 1) = (1 : Int)) → V_X11_bell R 42 [(0, kR 201), (3, kI k), (4, kI s), (5, kI (bor bits 0)), (6, kI (i + 1))] μ) ∧ (¬ (¬ (band (bshr s i) 1) = (1 : Int)) → isC 201 11 ∧ inA 227 0 i ∧ V_X11_bell R 42 [(0, kR 201), (3, kI k), (4, kI s), (5, kI (bor bits (bshl 1 (μ 227 i)))), (6, kI (i + 1))] μ))
  exact ⟨c_201, ⟨⟨H.1, H.2.1⟩, fun hc14 => ⟨(H.2.2.1 hc14).1, fun hc12 => ⟨⟨((H.2.2.1 hc14).2.1 hc12).1, by unfold r32; omega⟩, fun hc11 => ⟨⟨(((H.2.2.1 hc14).2.1 hc12).2.1 hc11).1, by unfold r32; omega⟩, fun hc10 => ⟨c_201, ((((H.2.2.1 hc14).2.1 hc12).2.1 hc11).2.1 hc10).1, ((((H.2.2.1 hc14).2.1 hc12).2.1 hc11).2.1 hc10).2⟩, fun hc10 => ((((H.2.2.1 hc14).2.1 hc12).2.1 hc11).2.2 hc10)⟩, fun hc11 => ⟨c_201, ⟨isArr.in a_228 (((H.2.2.1 hc14).2.1 hc12).2.2 hc11).1.1 (((H.2.2.1 hc14).2.1 hc12).2.2 hc11).1.2, (((H.2.2.1 hc14).2.1 hc12).2.2 hc11).2⟩⟩⟩, fun hc12 => ⟨c_201, ((H.2.2.1 hc14).2.2 hc12).1, ((H.2.2.1 hc14).2.2 hc12).2⟩⟩, fun hc14 => ⟨⟨(H.2.2.2 hc14).1, by unfold r32; omega⟩, fun hc13 => ((H.2.2.2 hc14).2.1 hc13), fun hc13 => ⟨c_201, ⟨isArr.in a_227 ((H.2.2.2 hc14).2.2 hc13).1.1 ((H.2.2.2 hc14).2.2 hc13).1.2, ((H.2.2.2 hc14).2.2 hc13).2⟩⟩⟩⟩⟩
theorem body_X11_bell {o n a k : Int} {μ : Mem} {R : Mem → Option AV → Prop} (h : P_X11_bell o n a k μ) (hR : ∀ (μ' : Mem) (r : Int), Q_X11_bell o n a k μ μ' r → R μ' (some (kI r))) : V_X11_bell R 0 [(0, kR o), (1, kI n), (2, kI a), (3, kI k)] μ := by
  obtain ⟨rfl, hs, r_n, r_a, r_k⟩ := h
  refine vc_X11_bell_0 ⟨⟨rfl, hs, r_n⟩, fun m rv q => ?_⟩
  obtain ⟨q1, q3, q4⟩ := q
  have ask : AskM μ m := fun z hz => q1 z (by omega) (by omega) (by omega)
  by_cases c : 0 ≤ n ∧ n < μ 202 0
  · obtain ⟨rfl, hl, hv⟩ := q4 c
    have hb := hl.1
    have ok := hb.v
    have hp := hb.p
    have hpe := hb.2.1
    have fin : ∀ (m' : Mem) (x : Int), AskM m m' → x = (bellT a k) (vm m) → R m' (some (kI x)) := fun m' x ha hx => hR m' x ⟨ask.trans ha, by rw [hx, onM_yes c, ← hv]⟩
    have a0 := AskM_0 m
    refine ⟨rr (by omega), fun q => absurd q (by omega), fun _ => ?_⟩
    have ir := isIn_r (x := a) (lo := 0) (hi := 999) (μ := m)
    unfold bellT at fin
    refine ⟨⟨r_a, rr (by omega), rr (by omega)⟩, rr (by omega), fun d => fin m _ a0 (if_neg (fun q => isIn_1.mpr q.1 d)).symm, fun d => ⟨r_k, fun c0 => ⟨⟨rfl, hb, hl.2.1⟩, fun m4 q5 => ?_⟩, fun c0 => fin m _ a0 (if_neg (fun q => c0 q.2)).symm⟩⟩
    have da := isIn_1.mp d
    obtain ⟨bk, ls, ev, fl, fz⟩ := q5
    have ak : AskM m m4 := fun z hz => fz z (by omega) (by omega) (by omega)
    have f := bk.f
    have ec : celM m4 = cellV (vm m) := by unfold celM; rw [ev]
    have p1 := pw2_le f.2.2.1.1 f.2.2.1.2
    rw [if_pos ⟨da, c0⟩] at fin
    -- the class's fold over sets is the model's over their numbers
    have eB : beV (vm m) a (cellV (vm m) + 1) = bstB (vm m4) (celM m4) a ((2 ^ (popc (celM m4)).toNat : Nat) : Int) := by
      unfold beV bstB
      rw [ev, ← ec]
      refine fold_ex f.2.2.2.1.1 f.2.2.2.1.2 fun b b0 b1 hno y => ?_
      unfold beS
      rw [← ec, if_neg (fun q => hno ((subB_iff b0 (by omega) f.2.2.2.1.1 f.2.2.2.1.2).mp q.1))]
    rw [eB] at fin
    obtain ⟨t, et⟩ : ∃ t, t = F_X11_bestBell 201 a m4 := ⟨_, rfl⟩
    have st := bst_st (v := vm m4) (s := celM m4) (k := a) (by omega) _ (by omega) (Int.le_refl ((2 ^ (popc (celM m4)).toNat : Nat) : Int))
    have et2 : coS (celM m4) (bstB (vm m4) (celM m4) a ((2 ^ (popc (celM m4)).toNat : Nat) : Int)).1 = t := et.symm
    rw [et2] at st
    generalize bstB (vm m4) (celM m4) a ((2 ^ (popc (celM m4)).toNat : Nat) : Int) = B at st fin
    obtain ⟨ht, s1, s2, s3⟩ := st
    refine ⟨⟨rfl, bk, ls, da⟩, ?_⟩
    rw [← et]
    have pbd : ∀ k : Int, 0 ≤ bitsV (fun a => hasB (celM m4) a && (hasB t (cntB (celM m4) a) && decide (cntB (celM m4) a < k))) 8 ∧ bitsV (fun a => hasB (celM m4) a && (hasB t (cntB (celM m4) a) && decide (cntB (celM m4) a < k))) 8 < 256 := fun k => bitsV_bd (by omega)
    have key := up_ind (P := fun i => V_X11_bell R 42 [(0, kR 201), (3, kI k), (4, kI t), (5, kI (bitsV (fun a => hasB (celM m4) a && (hasB t (cntB (celM m4) a) && decide (cntB (celM m4) a < i))) 8)), (6, kI i)] m4) (lo := 0) (hi := popc (celM m4)) ?_ ?_
    · have := key 0 (by omega) f.2.2.1.1
      have e0 : bitsV (fun a => hasB (celM m4) a && (hasB t (cntB (celM m4) a) && decide (cntB (celM m4) a < 0))) 8 = 0 := by
        refine set_0 (pbd 0).1 (pbd 0).2 fun a a0 a1 => ?_
        have := (cntB_bd (s := celM m4) (c := a) a0).1
        rw [bitsV_has (by omega) a a0, decide_eq_false (show ¬ cntB (celM m4) a < 0 by omega), Bool.and_false, Bool.and_false, Bool.and_false]
      rw [e0] at this
      exact this
    · intro i i0 i1 ih
      have ett := b_tst (s := t) (a := i) ht.1 (by omega) i0 (by omega)
      have hm := mth_in i0 i1
      have e5 := bk.2.1.2 i i0 i1
      have bk' := pbd i
      refine vc_X11_bell_42 ?_
      rw [bk.2.1.1, ett, e5]
      by_cases hbit : hasB t i = true
      · rw [if_pos hbit, or_put bk'.1 bk'.2 hm.1.1 hm.1.2 (pbd (i + 1)).1 (pbd (i + 1)).2 (fun b b0 b1 => ?_)]
        · exact ⟨rr (by omega), rr (by omega), fun c => absurd c (by omega), fun _ => ⟨rr (by omega), fun c => absurd rfl c, fun _ => ⟨by omega, ih⟩⟩⟩
        · rw [bitsV_has (by omega) b b0, bitsV_has (by omega) b b0, decide_eq_true b1, Bool.true_and, Bool.true_and]
          by_cases cb : hasB (celM m4) b = true
          · rw [cb, Bool.true_and, Bool.true_and]
            by_cases e : b = mthV (celM m4) i
            · rw [e, mth_cnt i0 i1, hbit, decide_eq_true (show i < i + 1 by omega), decide_eq_true rfl, Bool.or_true]; rfl
            · have : cntB (celM m4) b ≠ i := fun q => e (by rw [← q, mth_at b0 b1 cb])
              rw [decide_eq_false e, Bool.or_false]
              by_cases l : cntB (celM m4) b < i
              · rw [decide_eq_true l, decide_eq_true (by omega)]
              · rw [decide_eq_false l, decide_eq_false (by omega)]
          · have cb' : hasB (celM m4) b = false := by simpa using cb
            have e : b ≠ mthV (celM m4) i := fun q => cb (by rw [q]; exact hm.2)
            rw [cb', decide_eq_false e]; rfl
      · have hb' : hasB t i = false := by simpa using hbit
        have e0 : bor (bitsV (fun a => hasB (celM m4) a && (hasB t (cntB (celM m4) a) && decide (cntB (celM m4) a < i))) 8) 0 = bitsV (fun a => hasB (celM m4) a && (hasB t (cntB (celM m4) a) && decide (cntB (celM m4) a < i + 1))) 8 := by
          rw [b_or bk'.1 (by omega) (by omega) (by omega)]
          have : (bitsV (fun a => hasB (celM m4) a && (hasB t (cntB (celM m4) a) && decide (cntB (celM m4) a < i))) 8) = bitsV (fun a => hasB (celM m4) a && (hasB t (cntB (celM m4) a) && decide (cntB (celM m4) a < i + 1))) 8 := by
            refine set_ext bk'.1 bk'.2 (pbd (i + 1)).1 (pbd (i + 1)).2 fun b b0 b1 => ?_
            rw [bitsV_has (by omega) b b0, bitsV_has (by omega) b b0]
            congr 2
            by_cases e : cntB (celM m4) b = i
            · rw [e, hb', Bool.false_and, Bool.false_and]
            · congr 1
              by_cases l : cntB (celM m4) b < i
              · rw [decide_eq_true l, decide_eq_true (by omega)]
              · rw [decide_eq_false l, decide_eq_false (by omega)]
          rw [← this]
          show ((_ ||| 0 : Nat) : Int) = _
          rw [Nat.or_zero]
          omega
        rw [if_neg hbit, e0]
        exact ⟨rr (by omega), rr (by omega), fun c => absurd c (by omega), fun _ => ⟨rr (by omega), fun _ => ih, fun c => absurd (show ¬ (0 : Int) = 1 by omega) c⟩⟩
    · have eall : bitsV (fun a => hasB (celM m4) a && (hasB t (cntB (celM m4) a) && decide (cntB (celM m4) a < popc (celM m4)))) 8 = exS (celM m4) t := by
        refine set_ext (pbd _).1 (pbd _).2 ex_bd.1 ex_bd.2 fun b b0 b1 => ?_
        rw [ex_has b0, bitsV_has (by omega) b b0]
        by_cases cb : hasB (celM m4) b = true
        · have := cnt_lt_pop b0 b1 cb
          rw [decide_eq_true this.2, Bool.and_true]
        · have cb' : hasB (celM m4) b = false := by simpa using cb
          rw [cb', Bool.false_and, Bool.false_and]
      have e228 : m4 228 (9 * t + 8) = B.2.2 := by
        rw [ls t 8 ht.1 ht.2 (Or.inl rfl), ← s3]
        rfl
      rw [eall, s1]
      refine vc_X11_bell_42 ?_
      rw [bk.2.1.1, e228]
      refine ⟨rr (by omega), rr (by omega), fun _ => ⟨r_k, fun c1 => ⟨r_k, fun c2 => ⟨r_k, fun c3 => ⟨⟨rfl, bk, ls, ht, rr (by have : -2147483648 ≤ k ∧ k ≤ 2147483647 := r_k; omega)⟩, fin m4 _ ak ?_⟩, fun c3 => fin m4 _ ak ?_⟩, fun c2 => ⟨by omega, fin m4 _ ak ?_⟩⟩, fun c1 => ⟨⟨rfl, bk, ht.1, by omega⟩, fin m4 _ ak ?_⟩⟩, fun c => absurd (Int.le_refl _) c⟩
      · rw [if_neg c1, if_neg c2, if_neg c3]
        unfold F_X11_bellAt
        rw [s1, ev]
      · rw [if_neg c1, if_neg c2, if_pos (Classical.byContradiction c3)]
      · rw [if_neg c1, if_pos (Classical.byContradiction c2)]
      · rw [if_pos (Classical.byContradiction c1)]
        unfold F_X11_bellWorth
        rw [s2]
  · have e := q3 c
    subst e
    exact ⟨rr (by omega), fun _ => hR m _ ⟨ask, (onM_no c).symm⟩, fun q => absurd rfl q⟩
theorem ct_X11_bell : Ct mX11_bell 3 69 0 0 (nrmS S_X11_bell) := by
  refine ct_vm (own := RX11) (by decide +kernel) rfl ?_ ?_
  · intro as μ Q hS
    unfold S_X11_bell at hS
    split at hS
    · exact Nat.le_of_ble_eq_true rfl
    · exact hS.elim
  · intro as μ R hS
    unfold S_X11_bell at hS
    split at hS
    · exact body_X11_bell hS.1 hS.2
    · exact hS.elim
