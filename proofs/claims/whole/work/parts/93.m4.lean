/-! lists against sets; walks that are judged -/
theorem lst_sum {g : Int → Int} {s : Int} : ∀ c : Int, 0 ≤ c → c ≤ 8 → sm (fun k => g (mthV s k)) (cntB s c) = sm (fun a => if hasB s a = true then g a else 0) c := by
  refine nat_ind (P := fun c => c ≤ 8 → sm (fun k => g (mthV s k)) (cntB s c) = sm (fun a => if hasB s a = true then g a else 0) c) (fun _ => rfl) (fun c c0 ih hc => ?_)
  have b := cntB_bd (s := s) (c := c) c0
  rw [cntB_s c0, sm_s c0, ← ih (by omega)]
  by_cases h : hasB s c = true
  · rw [if_pos h, if_pos h, sm_s b.1, mth_at c0 (by omega) h]
  · rw [if_neg h, if_neg h, Int.add_zero, Int.add_zero]
theorem lst_sum8 {g : Int → Int} {s : Int} : sm (fun k => g (mthV s k)) (popc s) = sm (fun a => if hasB s a = true then g a else 0) 8 := lst_sum 8 (by omega) (by omega)
/-- the number of a place among a set's, and back -/
theorem mth_cnt {s k : Int} (k0 : 0 ≤ k) (k1 : k < popc s) : cntB s (mthV s k) = k := by
  have q := (frst_cases (fun a => hasB s a && decide (cntB s a = k)) (n := 8) (by omega))
  rcases q with ⟨e, hn⟩ | ⟨j, j0, j1, e, hj, _⟩
  · have := (mth_in k0 k1).1.1
    unfold mthV at this
    omega
  · unfold mthV
    rw [e]
    have := hj
    rw [Bool.and_eq_true] at this
    exact of_decide_eq_true this.2
theorem cnt_lt_pop {s a : Int} (a0 : 0 ≤ a) (a1 : a < 8) (h : hasB s a = true) : 0 ≤ cntB s a ∧ cntB s a < popc s := by
  have b := cntB_bd (s := s) (c := a) a0
  have e := cntB_s (s := s) (c := a) a0
  rw [if_pos h] at e
  have m := cntB_mono (s := s) (a := a + 1) (b := 8) (by omega) (by omega)
  have : popc s = cntB s 8 := rfl
  omega
theorem mth_lt {s j k : Int} (j0 : 0 ≤ j) (jk : j < k) (k1 : k < popc s) : mthV s j < mthV s k := by
  have hj := mth_in (s := s) j0 (by omega)
  have hk := mth_in (s := s) (m := k) (by omega) k1
  have cj := mth_cnt (s := s) j0 (by omega)
  have ck := mth_cnt (s := s) (k := k) (by omega) k1
  have m := cntB_mono (s := s) (a := mthV s k) (b := mthV s j) hk.1.1
  omega
theorem pos_ok {v : TV} (ok : TVok v) {w i : Int} (w0 : 0 ≤ w) (w1 : w < v 8 0) (i0 : 0 ≤ i) (i1 : i ≤ v 9 w) : 0 ≤ posV v w i ∧ posV v w i < v 0 0 := by
  have h9 := ok.2.2.2.2.2.2.2.2.1 w w0 w1
  have hp := ok.1
  unfold posV
  by_cases hk : i = 0
  · rw [if_pos hk]; omega
  · rw [if_neg hk]; exact h9.2.2 (i - 1) (by omega) (by omega)
theorem tim_ok {v : TV} (h : VOk v) {w i : Int} (w0 : 0 ≤ w) (w1 : w < v 8 0) (i0 : 0 ≤ i) (i1 : i ≤ v 9 w) : 0 ≤ timV v w i ∧ timV v w i ≤ 2240 := by
  have h9 := h.1.2.2.2.2.2.2.2.2.1 w w0 w1
  have h := sm_bd (f := fun k => wayV v (posV v w k) (v 11 (16 * w + k))) (n := i) (c := 0) (d := 140) (fun k k0 k1 => by
    have a1 := h9.2.2 k k0 (by omega)
    have a2 := pos_ok h.1 w0 w1 k0 (by omega)
    exact way_ok h a2.1 a2.2 a1.1 a1.2) i0
  unfold timV
  omega
theorem found_ok {v : TV} (h : VOk v) {w p : Int} (w0 : 0 ≤ w) (w1 : w < v 8 0) : -1 ≤ foundV v w p ∧ foundV v w p ≤ 2240 := by
  have h9 := (h.1.2.2.2.2.2.2.2.2.1 w w0 w1).1
  unfold foundV
  by_cases hp : p = 0
  · rw [if_pos hp]; omega
  · rw [if_neg hp]
    rcases frst_cases (fun i => v 11 (16 * w + i) == p) (n := v 9 w) h9.1 with ⟨e, -⟩ | ⟨k, k0, k1, e, -⟩
    · rw [if_pos (by omega)]; omega
    · rw [if_neg (by omega), e]
      have := tim_ok h w0 w1 (i := k + 1) (by omega) (by omega)
      omega
theorem weighed_ok {v : TV} (h : VOk v) {p : Int} : ∀ n : Int, 0 ≤ n → n ≤ v 8 0 → 0 ≤ sm (fun w => v 10 w * (if foundV v w p = -1 then 999 else foundV v w p)) n ∧ sm (fun w => v 10 w * (if foundV v w p = -1 then 999 else foundV v w p)) n ≤ 1774080 := fun n n0 n1 => by
  have h8 := h.1.2.2.2.2.2.2.2.1
  have h := sm_bd (f := fun w => v 10 w * (if foundV v w p = -1 then 999 else foundV v w p)) (n := n) (c := 0) (d := 221760) (fun w w0 w1 => by
    have hf := found_ok (p := p) h w0 (w := w) (by omega)
    have h9 := (h.1.2.2.2.2.2.2.2.2.1 w w0 (by omega)).2.1
    have := mul_bd (b := if foundV v w p = -1 then 999 else foundV v w p) (B := 2240) h9.1 h9.2 (by omega) (by omega)
    omega) n0
  omega
theorem away_hasp {v : TV} (ok : TVok v) {a : Int} (a0 : 0 ≤ a) (h : hasB (awayV v) a = true) : 0 < a ∧ a < v 0 0 ∧ 0 < v 4 a := by
  rw [away_has ok a0, Bool.and_eq_true, Bool.and_eq_true] at h
  exact ⟨of_decide_eq_true h.1.1, of_decide_eq_true h.1.2, of_decide_eq_true h.2⟩
theorem away_7 {v : TV} (ok : TVok v) : popc (awayV v) ≤ 7 := by
  have h0 : hasB (awayV v) 0 = false := by rw [away_has ok (by omega)]; rfl
  have e1 : cntB (awayV v) 1 = 0 := by
    have := cntB_s (s := awayV v) (c := 0) (by omega)
    rw [h0] at this
    exact this
  have key : ∀ n : Int, 1 ≤ n → cntB (awayV v) n ≤ n - 1 := by
    intro n n1
    refine up_ind (P := fun i => cntB (awayV v) i ≤ i - 1 → cntB (awayV v) n ≤ n - 1) (lo := 1) (hi := n) (fun i i0 i1 ih q => ih ?_) (fun q => q) 1 (by omega) n1 (by omega)
    rw [cntB_s (by omega)]
    split <;> omega
  exact key 8 (by omega)
theorem lastP_ge (v : TV) (n : Int) (h : 0 ≤ n) : -1 ≤ (lastP v n).2 := by
  unfold lastP
  refine fold_ind (P := fun _ (x : Int × Int) => -1 ≤ x.2) (by show (-1 : Int) ≤ -1; omega) (fun i x i0 i1 q => ?_) h
  show -1 ≤ (if x.2 < (if v 4 i ≤ 0 then -1 else weighedV v i) then (i, if v 4 i ≤ 0 then -1 else weighedV v i) else x).2
  by_cases c : x.2 < (if v 4 i ≤ 0 then -1 else weighedV v i)
  · rw [if_pos c]
    show -1 ≤ (if v 4 i ≤ 0 then -1 else weighedV v i)
    omega
  · rw [if_neg c]; exact q
def P_X11_comes (o w p : Int) (μ : Mem) : Prop := o = 201 ∧ LK μ ∧ (0 ≤ w ∧ w < vm μ 8 0) ∧ r32 p
def F_X11_comes (_ w p : Int) (μ : Mem) : Int := foundV (vm μ) w p
def S_X11_comes : S0t := fun as μ Q => match as with
  | [(2, x0), (0, x1), (0, x2)] => P_X11_comes x0 x1 x2 μ ∧ Q μ (some (kI (F_X11_comes x0 x1 x2 μ)))
  | _ => False
theorem mono_X11_comes : Mono S_X11_comes := by
  intro as μ Q Q' h hS
  unfold S_X11_comes at hS ⊢
  split at hS
  · exact ⟨hS.1, h _ _ hS.2⟩
  · exact hS.elim
def iX11_comes : Inf := (kX11_comes, fTX11, pTX11, cTX11, lTX11, sTX11, [(237, 0, 1, 11, S_X11_walkAt)])
theorem ok_X11_comes : infOK iX11_comes mX11_comes RX11 1 21 := ⟨kkX11_comes, fTX11_ok, pTX11_ok _, cTX11_ok, lTX11_ok, sTX11_ok, c_cons ⟨mX11_walkAt, 0, 0, ct_X11_walkAt, mmX11_walkAt, vvX11_walkAt, lkX11_237, ⟨by decide, by decide⟩, ⟨_, _, rfl⟩, by decide, mono_X11_walkAt⟩ (c_nil)⟩
theorem mt_X11_comes : mtOK [] RX11 1 21 := mt_nil
abbrev V_X11_comes (R : Mem → Option AV → Prop) (pc : Nat) (lc : List (Nat × AV)) (μ : Mem) : Prop := VM mX11_comes RX11 1 21 R pc lc [] μ
set_option maxRecDepth 20000 in
theorem vc_X11_comes_0 {R : Mem → Option AV → Prop} {w p : Int} {μ : Mem} (H : r32 p ∧ ((¬ p = 0) → P_X11_walkAt 201 w μ ∧ V_X11_comes R 21 [(0, kR 201), (2, kI p), (3, kI (F_X11_walkAt 201 w μ)), (4, kI 0), (5, kI 0), (6, kI 0)] μ) ∧ (¬ (¬ p = 0) → R μ (some (kI 0)))) : V_X11_comes R 0 [(0, kR 201), (1, kI w), (2, kI p)] μ := by
  refine vm_step2 mt_X11_comes ok_X11_comes [(21, [0, 2, 3, 4, 5, 6])] 1000 ?_
  show r32 p ∧ ((¬ p = 0) → isC 201 11 ∧ P_X11_walkAt 201 w μ ∧ V_X11_comes R 21 [(0, kR 201), (2, kI p), (3, kI (F_X11_walkAt 201 w μ)), (4, kI 0), (5, kI 0), (6, kI 0)] μ) ∧ (¬ (¬ p = 0) → R μ (some (kI 0)))
  exact ⟨H.1, fun hc1 => ⟨c_201, (H.2.1 hc1).1, (H.2.1 hc1).2⟩, fun hc1 => (H.2.2 hc1)⟩
set_option maxRecDepth 20000 in
theorem vc_X11_comes_21 {R : Mem → Option AV → Prop} {p q h mi k : Int} {μ : Mem} (H : (0 ≤ q ∧ q < 5160) ∧ r32 k ∧ r32 (μ 202 q) ∧ (((μ 202 q) ≤ k) → R μ (some (kI (-1)))) ∧ (¬ ((μ 202 q) ≤ k) → (0 ≤ ((q + 2) + k) ∧ ((q + 2) + k) < 5160) ∧ (0 ≤ ((8 * h) + (μ 202 ((q + 2) + k))) ∧ ((8 * h) + (μ 202 ((q + 2) + k))) < 64) ∧ r32 (μ 202 ((q + 2) + k)) ∧ r32 p ∧ ((¬ (μ 202 ((q + 2) + k)) = p) → V_X11_comes R 21 [(0, kR 201), (2, kI p), (3, kI q), (4, kI (μ 202 ((q + 2) + k))), (5, kI (mi + (μ 206 ((8 * h) + (μ 202 ((q + 2) + k)))))), (6, kI (k + 1))] μ) ∧ (¬ (¬ (μ 202 ((q + 2) + k)) = p) → R μ (some (kI (mi + (μ 206 ((8 * h) + (μ 202 ((q + 2) + k)))))))))) : V_X11_comes R 21 [(0, kR 201), (2, kI p), (3, kI q), (4, kI h), (5, kI mi), (6, kI k)] μ := by
  refine vm_step2 mt_X11_comes ok_X11_comes [(21, [0, 2, 3, 4, 5, 6])] 1000 ?_
  show isC 201 11 ∧ inA 202 0 q ∧ (r32 k ∧ r32 (μ 202 q)) ∧ (((μ 202 q) ≤ k) → R μ (some (kI (-1)))) ∧ (¬ ((μ 202 q) ≤ k) → isC 201 11 ∧ inA 202 0 ((q + 2) + k) ∧ isC 201 11 ∧ inA 206 0 ((8 * h) + (μ 202 ((q + 2) + k))) ∧ (r32 (μ 202 ((q + 2) + k)) ∧ r32 p) ∧ ((¬ (μ 202 ((q + 2) + k)) = p) → V_X11_comes R 21 [(0, kR 201), (2, kI p), (3, kI q), (4, kI (μ 202 ((q + 2) + k))), (5, kI (mi + (μ 206 ((8 * h) + (μ 202 ((q + 2) + k)))))), (6, kI (k + 1))] μ) ∧ (¬ (¬ (μ 202 ((q + 2) + k)) = p) → R μ (some (kI (mi + (μ 206 ((8 * h) + (μ 202 ((q + 2) + k)))))))))
  exact ⟨c_201, ⟨isArr.in a_202 H.1.1 H.1.2, ⟨⟨H.2.1, H.2.2.1⟩, fun hc3 => (H.2.2.2.1 hc3), fun hc3 => ⟨c_201, ⟨isArr.in a_202 (H.2.2.2.2 hc3).1.1 (H.2.2.2.2 hc3).1.2, ⟨c_201, ⟨isArr.in a_206 (H.2.2.2.2 hc3).2.1.1 (H.2.2.2.2 hc3).2.1.2, ⟨⟨(H.2.2.2.2 hc3).2.2.1, (H.2.2.2.2 hc3).2.2.2.1⟩, fun hc2 => ((H.2.2.2.2 hc3).2.2.2.2.1 hc2), fun hc2 => ((H.2.2.2.2 hc3).2.2.2.2.2 hc2)⟩⟩⟩⟩⟩⟩⟩⟩
theorem body_X11_comes {o w p : Int} {μ : Mem} {R : Mem → Option AV → Prop} (h : P_X11_comes o w p μ) (hR : R μ (some (kI (F_X11_comes o w p μ)))) : V_X11_comes R 0 [(0, kR o), (1, kI w), (2, kI p)] μ := by
  obtain ⟨rfl, hl, hw1, hp⟩ := h
  have hb := hl.1
  have ok := hb.v
  have vok : VOk (vm μ) := hb.2.2
  have hpl := ok.1
  have h8 := ok.2.2.2.2.2.2.2.1
  have h9 := ok.2.2.2.2.2.2.2.2.1 w hw1.1 hw1.2
  have en := v9_ μ hw1.1 hw1.2
  have hbs := hb.1
  have ew : F_X11_walkAt 201 w μ = μ 201 12 + 104 + 18 * w := rfl
  refine vc_X11_comes_0 ⟨hp, fun hp0 => ⟨rfl, ?_⟩, fun c => r_eq hR (by unfold F_X11_comes foundV; rw [if_pos (Classical.byContradiction c)])⟩
  rw [ew]
  refine up_ind (P := fun i => (∀ k, 0 ≤ k → k < i → (vm μ 11 (16 * w + k) == p) = false) → V_X11_comes R 21 [(0, kR 201), (2, kI p), (3, kI (μ 201 12 + 104 + 18 * w)), (4, kI (posV (vm μ) w i)), (5, kI (timV (vm μ) w i)), (6, kI i)] μ) (lo := 0) (hi := vm μ 9 w) ?_ ?_ 0 (by omega) (by omega) (fun k a b => absurd a (by omega))
  · intro i i0 i1 ih hno
    have hs := h9.2.2 i i0 i1
    have es := v11_ μ hw1.1 hw1.2 i0 i1 (by omega)
    have hpos := pos_ok ok hw1.1 hw1.2 i0 (by omega)
    have eway := hl.2.1 _ _ hpos.1 hpos.2 hs.1 hs.2
    have et : timV (vm μ) w (i + 1) = timV (vm μ) w i + wayV (vm μ) (posV (vm μ) w i) (vm μ 11 (16 * w + i)) := sm_s i0
    have ep : posV (vm μ) w (i + 1) = vm μ 11 (16 * w + i) := by
      unfold posV
      rw [if_neg (by omega), show i + 1 - 1 = i by omega]
    refine vc_X11_comes_21 ?_
    rw [show μ 201 12 + 104 + 18 * w + 2 + i = μ 201 12 + 106 + 18 * w + i by omega, ← es, eway, ← en]
    refine ⟨by omega, rr (by omega), rr (by omega), fun c => absurd c (by omega), fun _ => ⟨by omega, by omega, rr (by omega), hp, fun c => ?_, fun c => r_eq hR ?_⟩⟩
    · have := ih (fun k k0 k1 => by
        by_cases hk : k = i
        · rw [hk]; simpa using c
        · exact hno k k0 (by omega))
      rw [et, ep] at this
      exact this
    · have ec : vm μ 11 (16 * w + i) = p := Classical.byContradiction c
      unfold F_X11_comes foundV
      rw [if_neg hp0, frst_at i0 i1 (by simpa using ec) hno, if_neg (by omega), et]
  · intro hno
    refine vc_X11_comes_21 ?_
    rw [← en]
    refine ⟨by omega, rr (by omega), rr (by omega), fun _ => r_eq hR ?_, fun c => absurd (Int.le_refl _) c⟩
    unfold F_X11_comes foundV
    rw [if_neg hp0, frst_none h9.1.1 hno, if_pos (by omega)]
theorem ct_X11_comes : Ct mX11_comes 1 21 0 0 (nrmS S_X11_comes) := by
  refine ct_vm (own := RX11) (by decide +kernel) rfl ?_ ?_
  · intro as μ Q hS
    unfold S_X11_comes at hS
    split at hS
    · exact Nat.le_of_ble_eq_true rfl
    · exact hS.elim
  · intro as μ R hS
    unfold S_X11_comes at hS
    split at hS
    · exact body_X11_comes hS.1 hS.2
    · exact hS.elim
def P_X11_found (o n a b : Int) (μ : Mem) : Prop := o = 201 ∧ SOk (stM μ) ∧ r32 n ∧ r32 a ∧ r32 b
def Q_X11_found (_ n a b : Int) (μ μ' : Mem) (r : Int) : Prop := AskM μ μ' ∧ r = onT (stM μ).1 n (-1) (foundT a b)
def S_X11_found : S0t := fun as μ Q => match as with
  | [(2, x0), (0, x1), (0, x2), (0, x3)] => P_X11_found x0 x1 x2 x3 μ ∧ ∀ (μ' : Mem) (r : Int), Q_X11_found x0 x1 x2 x3 μ μ' r → Q μ' (some (kI r))
  | _ => False
theorem mono_X11_found : Mono S_X11_found := by
  intro as μ Q Q' h hS
  unfold S_X11_found at hS ⊢
  split at hS
  · exact ⟨hS.1, fun μ' r q => h _ _ (hS.2 _ _ q)⟩
  · exact hS.elim
def iX11_found : Inf := (kX11_found, fTX11, pTX11, cTX11, lTX11, sTX11, [(240, 0, 2, 11, S_X11_isWalk), (234, 0, 1, 11, S_X11_looks), (231, 0, 1, 11, S_X11_isPlace), (244, 0, 2, 11, S_X11_comes)])
theorem ok_X11_found : infOK iX11_found mX11_found RX11 3 66 := ⟨kkX11_found, fTX11_ok, pTX11_ok _, cTX11_ok, lTX11_ok, sTX11_ok, c_cons ⟨mX11_isWalk, 2, 43, ct_X11_isWalk, mmX11_isWalk, vvX11_isWalk, lkX11_240, ⟨by decide, by decide⟩, ⟨_, _, rfl⟩, by decide, mono_X11_isWalk⟩ (c_cons ⟨mX11_looks, 2, 45, ct_X11_looks, mmX11_looks, vvX11_looks, lkX11_234, ⟨by decide, by decide⟩, ⟨_, _, rfl⟩, by decide, mono_X11_looks⟩ (c_cons ⟨mX11_isPlace, 1, 22, ct_X11_isPlace, mmX11_isPlace, vvX11_isPlace, lkX11_231, ⟨by decide, by decide⟩, ⟨_, _, rfl⟩, by decide, mono_X11_isPlace⟩ (c_cons ⟨mX11_comes, 1, 21, ct_X11_comes, mmX11_comes, vvX11_comes, lkX11_244, ⟨by decide, by decide⟩, ⟨_, _, rfl⟩, by decide, mono_X11_comes⟩ (c_nil))))⟩
theorem mt_X11_found : mtOK [] RX11 3 66 := mt_nil
abbrev V_X11_found (R : Mem → Option AV → Prop) (pc : Nat) (lc : List (Nat × AV)) (μ : Mem) : Prop := VM mX11_found RX11 3 66 R pc lc [] μ
set_option maxRecDepth 20000 in
theorem vc_X11_found_0 {R : Mem → Option AV → Prop} {n a b : Int} {μ : Mem} (H : P_X11_isWalk 201 n a μ ∧ (∀ (μ1 : Mem) (rv2 : Int), Q_X11_isWalk 201 n a μ μ1 rv2 → r32 rv2 ∧ ((rv2 = 0) → R μ1 (some (kI (-1)))) ∧ (¬ (rv2 = 0) → P_X11_looks 201 n μ1 ∧ (∀ (μ4 : Mem) (rv5 : Int), Q_X11_looks 201 n μ1 μ4 rv5 → r32 rv5 ∧ ((rv5 = 0) → R μ4 (some (kI (-1)))) ∧ (¬ (rv5 = 0) → P_X11_isPlace 201 b μ4 ∧ r32 (F_X11_isPlace 201 b μ4) ∧ (((F_X11_isPlace 201 b μ4) = 0) → R μ4 (some (kI (-1)))) ∧ (¬ ((F_X11_isPlace 201 b μ4) = 0) → P_X11_comes 201 a b μ4 ∧ R μ4 (some (kI (F_X11_comes 201 a b μ4))))))))) : V_X11_found R 0 [(0, kR 201), (1, kI n), (2, kI a), (3, kI b)] μ := by
  refine vm_step2 mt_X11_found ok_X11_found [] 1000 ?_
  show isC 201 11 ∧ P_X11_isWalk 201 n a μ ∧ (∀ (μ1 : Mem) (rv2 : Int), Q_X11_isWalk 201 n a μ μ1 rv2 → r32 rv2 ∧ ((rv2 = 0) → R μ1 (some (kI (-1)))) ∧ (¬ (rv2 = 0) → isC 201 11 ∧ P_X11_looks 201 n μ1 ∧ (∀ (μ4 : Mem) (rv5 : Int), Q_X11_looks 201 n μ1 μ4 rv5 → r32 rv5 ∧ ((rv5 = 0) → R μ4 (some (kI (-1)))) ∧ (¬ (rv5 = 0) → isC 201 11 ∧ P_X11_isPlace 201 b μ4 ∧ r32 (F_X11_isPlace 201 b μ4) ∧ (((F_X11_isPlace 201 b μ4) = 0) → R μ4 (some (kI (-1)))) ∧ (¬ ((F_X11_isPlace 201 b μ4) = 0) → isC 201 11 ∧ P_X11_comes 201 a b μ4 ∧ R μ4 (some (kI (F_X11_comes 201 a b μ4))))))))
  exact ⟨c_201, H.1, fun μ1 rv2 hq3 => ⟨(H.2 μ1 rv2 hq3).1, fun hc9 => ((H.2 μ1 rv2 hq3).2.1 hc9), fun hc9 => ⟨c_201, ((H.2 μ1 rv2 hq3).2.2 hc9).1, fun μ4 rv5 hq6 => ⟨(((H.2 μ1 rv2 hq3).2.2 hc9).2 μ4 rv5 hq6).1, fun hc8 => ((((H.2 μ1 rv2 hq3).2.2 hc9).2 μ4 rv5 hq6).2.1 hc8), fun hc8 => ⟨c_201, ((((H.2 μ1 rv2 hq3).2.2 hc9).2 μ4 rv5 hq6).2.2 hc8).1, ⟨((((H.2 μ1 rv2 hq3).2.2 hc9).2 μ4 rv5 hq6).2.2 hc8).2.1, fun hc7 => (((((H.2 μ1 rv2 hq3).2.2 hc9).2 μ4 rv5 hq6).2.2 hc8).2.2.1 hc7), fun hc7 => ⟨c_201, (((((H.2 μ1 rv2 hq3).2.2 hc9).2 μ4 rv5 hq6).2.2 hc8).2.2.2 hc7).1, (((((H.2 μ1 rv2 hq3).2.2 hc9).2 μ4 rv5 hq6).2.2 hc8).2.2.2 hc7).2⟩⟩⟩⟩⟩⟩⟩
theorem body_X11_found {o n a b : Int} {μ : Mem} {R : Mem → Option AV → Prop} (h : P_X11_found o n a b μ) (hR : ∀ (μ' : Mem) (r : Int), Q_X11_found o n a b μ μ' r → R μ' (some (kI r))) : V_X11_found R 0 [(0, kR o), (1, kI n), (2, kI a), (3, kI b)] μ := by
  obtain ⟨rfl, hs, r_n, r_a, r_b⟩ := h
  refine vc_X11_found_0 ⟨⟨rfl, hs, r_n, r_a⟩, fun m rv q => ?_⟩
  obtain ⟨q1, q2, q3, q4⟩ := q
  have ask : AskM μ m := fun z hz => q1 z (by omega)
  by_cases c : (0 ≤ n ∧ n < μ 202 0) ∧ 0 ≤ a ∧ a < (stM μ).1.2.2 n 8 0
  · obtain ⟨rfl, hb1, hv1, h12⟩ := q4 c
    have cn := c.1
    have est := ask.st
    refine ⟨rr (by omega), fun q => absurd q (by omega), fun _ => ⟨⟨rfl, by rw [est]; exact hs, r_n⟩, fun m2 rv2 l => ?_⟩⟩
    obtain ⟨l1, l3, l4⟩ := l
    have cn2 : 0 ≤ n ∧ n < m 202 0 := by rw [q1 202 (by omega)]; exact cn
    obtain ⟨rfl, hl, hv⟩ := l4 cn2
    rw [est] at hv
    have hb := hl.1
    have ok := hb.v
    have hp := hb.p
    have hpe := hb.2.1
    have ask2 : AskM μ m2 := ask.trans (fun z hz => l1 z (by omega) (by omega) (by omega))
    have ca : 0 ≤ a ∧ a < vm m2 8 0 := by rw [hv]; exact c.2
    have fin : ∀ x : Int, x = (foundT a b) (vm m2) → R m2 (some (kI x)) := fun x hx => hR m2 x ⟨ask2, by rw [hx, onM_yes cn, ← hv]⟩
    refine ⟨rr (by omega), fun q => absurd q (by omega), fun _ => ?_⟩
    unfold foundT at fin
    have ir := isPlace_r (o := 201) (a := b) (μ := m2)
    refine ⟨⟨rfl, hb, r_b⟩, rr (by omega), fun d => fin _ ?_, fun d => ⟨⟨rfl, hl, ca, r_b⟩, fin _ ?_⟩⟩
    · rw [if_neg (fun q => isPlace_1.mpr q.2 d)]
    · rw [if_pos ⟨ca, isPlace_1.mp d⟩]; rfl
  · have e := q3 c
    subst e
    refine ⟨rr (by omega), fun _ => hR m _ ⟨ask, ?_⟩, fun q => absurd rfl q⟩
    by_cases cn : 0 ≤ n ∧ n < μ 202 0
    · rw [onM_yes cn]
      unfold foundT
      rw [if_neg (fun q => c ⟨cn, q.1⟩)]
    · exact (onM_no cn).symm
theorem ct_X11_found : Ct mX11_found 3 66 0 0 (nrmS S_X11_found) := by
  refine ct_vm (own := RX11) (by decide +kernel) rfl ?_ ?_
  · intro as μ Q hS
    unfold S_X11_found at hS
    split at hS
    · exact Nat.le_of_ble_eq_true rfl
    · exact hS.elim
  · intro as μ R hS
    unfold S_X11_found at hS
    split at hS
    · exact body_X11_found hS.1 hS.2
    · exact hS.elim
def P_X11_mean (o n a : Int) (μ : Mem) : Prop := o = 201 ∧ SOk (stM μ) ∧ r32 n ∧ r32 a
def Q_X11_mean (_ n a : Int) (μ μ' : Mem) (r : Int) : Prop := AskM μ μ' ∧ r = onT (stM μ).1 n (-1) (meanT a)
def S_X11_mean : S0t := fun as μ Q => match as with
  | [(2, x0), (0, x1), (0, x2)] => P_X11_mean x0 x1 x2 μ ∧ ∀ (μ' : Mem) (r : Int), Q_X11_mean x0 x1 x2 μ μ' r → Q μ' (some (kI r))
  | _ => False
theorem mono_X11_mean : Mono S_X11_mean := by
  intro as μ Q Q' h hS
  unfold S_X11_mean at hS ⊢
  split at hS
  · exact ⟨hS.1, fun μ' r q => h _ _ (hS.2 _ _ q)⟩
  · exact hS.elim
def iX11_mean : Inf := (kX11_mean, fTX11, pTX11, cTX11, lTX11, sTX11, [(240, 0, 2, 11, S_X11_isWalk), (234, 0, 1, 11, S_X11_looks), (244, 0, 2, 11, S_X11_comes), (209, 0, 1, 11, S_X11_of)])
theorem ok_X11_mean : infOK iX11_mean mX11_mean RX11 3 66 := ⟨kkX11_mean, fTX11_ok, pTX11_ok _, cTX11_ok, lTX11_ok, sTX11_ok, c_cons ⟨mX11_isWalk, 2, 43, ct_X11_isWalk, mmX11_isWalk, vvX11_isWalk, lkX11_240, ⟨by decide, by decide⟩, ⟨_, _, rfl⟩, by decide, mono_X11_isWalk⟩ (c_cons ⟨mX11_looks, 2, 45, ct_X11_looks, mmX11_looks, vvX11_looks, lkX11_234, ⟨by decide, by decide⟩, ⟨_, _, rfl⟩, by decide, mono_X11_looks⟩ (c_cons ⟨mX11_comes, 1, 21, ct_X11_comes, mmX11_comes, vvX11_comes, lkX11_244, ⟨by decide, by decide⟩, ⟨_, _, rfl⟩, by decide, mono_X11_comes⟩ (c_cons ⟨mX11_of, 0, 0, ct_X11_of, mmX11_of, vvX11_of, lkX11_209, ⟨by decide, by decide⟩, ⟨_, _, rfl⟩, by decide, mono_X11_of⟩ (c_nil))))⟩
theorem mt_X11_mean : mtOK [] RX11 3 66 := mt_nil
abbrev V_X11_mean (R : Mem → Option AV → Prop) (pc : Nat) (lc : List (Nat × AV)) (μ : Mem) : Prop := VM mX11_mean RX11 3 66 R pc lc [] μ
set_option maxRecDepth 20000 in
theorem vc_X11_mean_0 {R : Mem → Option AV → Prop} {n a : Int} {μ : Mem} (H : P_X11_isWalk 201 n a μ ∧ (∀ (μ1 : Mem) (rv2 : Int), Q_X11_isWalk 201 n a μ μ1 rv2 → r32 rv2 ∧ ((rv2 = 0) → R μ1 (some (kI (-1)))) ∧ (¬ (rv2 = 0) → P_X11_looks 201 n μ1 ∧ (∀ (μ4 : Mem) (rv5 : Int), Q_X11_looks 201 n μ1 μ4 rv5 → r32 rv5 ∧ ((¬ rv5 = 0) → V_X11_mean R 24 [(0, kR 201), (2, kI a), (3, kI 0), (4, kI 0)] μ4) ∧ (¬ (¬ rv5 = 0) → R μ4 (some (kI (-1)))))))) : V_X11_mean R 0 [(0, kR 201), (1, kI n), (2, kI a)] μ := by
  refine vm_step2 mt_X11_mean ok_X11_mean [(24, [0, 2, 3, 4])] 1000 ?_
  show isC 201 11 ∧ P_X11_isWalk 201 n a μ ∧ (∀ (μ1 : Mem) (rv2 : Int), Q_X11_isWalk 201 n a μ μ1 rv2 → r32 rv2 ∧ ((rv2 = 0) → R μ1 (some (kI (-1)))) ∧ (¬ (rv2 = 0) → isC 201 11 ∧ P_X11_looks 201 n μ1 ∧ (∀ (μ4 : Mem) (rv5 : Int), Q_X11_looks 201 n μ1 μ4 rv5 → r32 rv5 ∧ ((¬ rv5 = 0) → V_X11_mean R 24 [(0, kR 201), (2, kI a), (3, kI 0), (4, kI 0)] μ4) ∧ (¬ (¬ rv5 = 0) → R μ4 (some (kI (-1)))))))
  exact ⟨c_201, H.1, fun μ1 rv2 hq3 => ⟨(H.2 μ1 rv2 hq3).1, fun hc8 => ((H.2 μ1 rv2 hq3).2.1 hc8), fun hc8 => ⟨c_201, ((H.2 μ1 rv2 hq3).2.2 hc8).1, fun μ4 rv5 hq6 => ⟨(((H.2 μ1 rv2 hq3).2.2 hc8).2 μ4 rv5 hq6).1, fun hc7 => ((((H.2 μ1 rv2 hq3).2.2 hc8).2 μ4 rv5 hq6).2.1 hc7), fun hc7 => ((((H.2 μ1 rv2 hq3).2.2 hc8).2 μ4 rv5 hq6).2.2 hc7)⟩⟩⟩⟩
set_option maxRecDepth 20000 in
theorem vc_X11_mean_24 {R : Mem → Option AV → Prop} {a sum k : Int} {μ : Mem} (H : r32 k ∧ r32 (μ 201 14) ∧ (((μ 201 14) ≤ k) → R μ (some (kI sum))) ∧ (¬ ((μ 201 14) ≤ k) → (0 ≤ k ∧ k < 7) ∧ P_X11_comes 201 a (μ 205 k) μ ∧ r32 (F_X11_comes 201 a (μ 205 k) μ) ∧ ((0 ≤ (F_X11_comes 201 a (μ 205 k) μ)) → (0 ≤ k ∧ k < 7) ∧ P_X11_of 201 (10 + (μ 205 k)) μ ∧ V_X11_mean R 24 [(0, kR 201), (2, kI a), (3, kI (sum + ((F_X11_comes 201 a (μ 205 k) μ) * (F_X11_of 201 (10 + (μ 205 k)) μ)))), (4, kI (k + 1))] μ) ∧ (¬ (0 ≤ (F_X11_comes 201 a (μ 205 k) μ)) → R μ (some (kI (-1)))))) : V_X11_mean R 24 [(0, kR 201), (2, kI a), (3, kI sum), (4, kI k)] μ := by
  refine vm_step2 mt_X11_mean ok_X11_mean [(24, [0, 2, 3, 4])] 1000 ?_
  show isC 201 11 ∧ (r32 k ∧ r32 (μ 201 14)) ∧ (((μ 201 14) ≤ k) → R μ (some (kI sum))) ∧ (¬ ((μ 201 14) ≤ k) → isC 201 11 ∧ inA 205 0 k ∧ isC 201 11 ∧ P_X11_comes 201 a (μ 205 k) μ ∧ r32 (F_X11_comes 201 a (μ 205 k) μ) ∧ ((0 ≤ (F_X11_comes 201 a (μ 205 k) μ)) → isC 201 11 ∧ inA 205 0 k ∧ isC 201 11 ∧ P_X11_of 201 (10 + (μ 205 k)) μ ∧ V_X11_mean R 24 [(0, kR 201), (2, kI a), (3, kI (sum + ((F_X11_comes 201 a (μ 205 k) μ) * (F_X11_of 201 (10 + (μ 205 k)) μ)))), (4, kI (k + 1))] μ) ∧ (¬ (0 ≤ (F_X11_comes 201 a (μ 205 k) μ)) → R μ (some (kI (-1)))))
  exact ⟨c_201, ⟨⟨H.1, H.2.1⟩, fun hc10 => (H.2.2.1 hc10), fun hc10 => ⟨c_201, ⟨isArr.in a_205 (H.2.2.2 hc10).1.1 (H.2.2.2 hc10).1.2, ⟨c_201, (H.2.2.2 hc10).2.1, ⟨(H.2.2.2 hc10).2.2.1, fun hc9 => ⟨c_201, ⟨isArr.in a_205 ((H.2.2.2 hc10).2.2.2.1 hc9).1.1 ((H.2.2.2 hc10).2.2.2.1 hc9).1.2, ⟨c_201, ((H.2.2.2 hc10).2.2.2.1 hc9).2.1, ((H.2.2.2 hc10).2.2.2.1 hc9).2.2⟩⟩⟩, fun hc9 => ((H.2.2.2 hc10).2.2.2.2 hc9)⟩⟩⟩⟩⟩⟩
theorem body_X11_mean {o n a : Int} {μ : Mem} {R : Mem → Option AV → Prop} (h : P_X11_mean o n a μ) (hR : ∀ (μ' : Mem) (r : Int), Q_X11_mean o n a μ μ' r → R μ' (some (kI r))) : V_X11_mean R 0 [(0, kR o), (1, kI n), (2, kI a)] μ := by
  obtain ⟨rfl, hs, r_n, r_a⟩ := h
  refine vc_X11_mean_0 ⟨⟨rfl, hs, r_n, r_a⟩, fun m rv q => ?_⟩
  obtain ⟨q1, q2, q3, q4⟩ := q
  have ask : AskM μ m := fun z hz => q1 z (by omega)
  by_cases c : (0 ≤ n ∧ n < μ 202 0) ∧ 0 ≤ a ∧ a < (stM μ).1.2.2 n 8 0
  · obtain ⟨rfl, hb1, hv1, h12⟩ := q4 c
    have cn := c.1
    have est := ask.st
    refine ⟨rr (by omega), fun q => absurd q (by omega), fun _ => ⟨⟨rfl, by rw [est]; exact hs, r_n⟩, fun m2 rv2 l => ?_⟩⟩
    obtain ⟨l1, l3, l4⟩ := l
    have cn2 : 0 ≤ n ∧ n < m 202 0 := by rw [q1 202 (by omega)]; exact cn
    obtain ⟨rfl, hl, hv⟩ := l4 cn2
    rw [est] at hv
    have hb := hl.1
    have ok := hb.v
    have hp := hb.p
    have hpe := hb.2.1
    have ask2 : AskM μ m2 := ask.trans (fun z hz => l1 z (by omega) (by omega) (by omega))
    have ca : 0 ≤ a ∧ a < vm m2 8 0 := by rw [hv]; exact c.2
    have fin : ∀ x : Int, x = (meanT a) (vm m2) → R m2 (some (kI x)) := fun x hx => hR m2 x ⟨ask2, by rw [hx, onM_yes cn, ← hv]⟩
    refine ⟨rr (by omega), fun _ => ?_, fun q => absurd (show ¬ (1 : Int) = 0 by omega) q⟩
    unfold meanT at fin
    rw [if_pos ca] at fin
    have eP := hl.2.2.1
    have cl := hl.2.2.2
    have pb := popc_bd (s := awayV (vm m2))
    have p7 : popc (awayV (vm m2)) ≤ 7 := away_7 ok
    have key := up_ind (P := fun k => (∀ j : Int, 0 ≤ j → j < k → foundV (vm m2) a (mthV (awayV (vm m2)) j) ≠ -1) → V_X11_mean R 24 [(0, kR 201), (2, kI a), (3, kI (sm (fun j => foundV (vm m2) a (mthV (awayV (vm m2)) j) * vm m2 4 (mthV (awayV (vm m2)) j)) k)), (4, kI k)] m2) (lo := 0) (hi := popc (awayV (vm m2))) ?_ ?_
    · exact key 0 (by omega) pb.1 (fun j j0 j1 => absurd j1 (by omega))
    · intro k k0 k1 ih hno
      have hm := mth_in k0 k1
      have hf := found_ok hb.2.2 (p := mthV (awayV (vm m2)) k) ca.1 ca.2
      refine vc_X11_mean_24 ?_
      rw [eP, cl k k0 k1, of_4 hm.1.1 hm.1.2]
      unfold F_X11_comes
      refine ⟨rr (by omega), rr (by omega), fun c => absurd c (by omega), fun _ => ⟨by omega, ⟨rfl, hl, ca, rr (by omega)⟩, rr (by omega), fun d => ⟨by omega, ⟨rfl, hb.1, by omega, by omega⟩, ?_⟩, fun d => fin _ ?_⟩⟩
      · have := ih (fun j j0 j1 => by
          by_cases e : j = k
          · rw [e]; omega
          · exact hno j j0 (by omega))
        rw [sm_s k0] at this
        exact this
      · have ha := (away_hasp ok hm.1.1 hm.2)
        unfold meanV
        rw [if_neg]
        intro q
        unfold allFoundV at q
        rw [allV_ok (by omega)] at q
        have := of_decide_eq_true (q _ hm.1.1 ha.2.1)
        omega
    · intro hno
      refine vc_X11_mean_24 ?_
      rw [eP]
      refine ⟨rr (by omega), rr (by omega), fun _ => fin _ ?_, fun c => absurd (Int.le_refl _) c⟩
      have hall : allFoundV (vm m2) a (vm m2 0 0) = true := by
        unfold allFoundV
        rw [allV_ok (by omega)]
        intro x x0 x1
        refine decide_eq_true ?_
        by_cases c4 : vm m2 4 x ≤ 0
        · exact Or.inl c4
        · refine Or.inr ?_
          by_cases x00 : x = 0
          · rw [x00]
            unfold foundV
            rw [if_pos rfl]; omega
          · have hin : hasB (awayV (vm m2)) x = true := by
              rw [away_has ok x0, decide_eq_true (show 0 < x by omega), decide_eq_true x1, decide_eq_true (show 0 < vm m2 4 x by omega)]; rfl
            have hc := cnt_lt_pop x0 (by omega) hin
            have := hno _ hc.1 hc.2
            rwa [mth_at x0 (by omega) hin] at this
      unfold meanV
      rw [if_pos hall]
      have e1 : sm (fun j => foundV (vm m2) a (mthV (awayV (vm m2)) j) * vm m2 4 (mthV (awayV (vm m2)) j)) (popc (awayV (vm m2))) = sm (fun x => if hasB (awayV (vm m2)) x = true then foundV (vm m2) a x * vm m2 4 x else 0) 8 := lst_sum8 (g := fun x => foundV (vm m2) a x * vm m2 4 x)
      rw [e1, sm_tail (n := vm m2 0 0) (by omega) (by omega) (fun i i0 i1 => by
        rw [if_neg]
        intro q
        have := (away_hasp ok (by omega) q).2.1
        omega)]
      unfold meanSum
      refine sm_congr fun i i0 i1 => ?_
      have h4 := (ok.2.2.2.1 i i0 (by omega)).1
      rw [away_has ok i0]
      by_cases x0 : i = 0
      · rw [x0, if_neg (by simp)]
        unfold foundV
        rw [if_pos rfl, Int.mul_zero]
        split <;> rfl
      · by_cases c4 : vm m2 4 i ≤ 0
        · rw [if_pos c4, decide_eq_false (show ¬ 0 < vm m2 4 i by omega), Bool.and_false, if_neg (by decide)]
        · rw [if_neg c4, decide_eq_true (show 0 < i by omega), decide_eq_true i1, decide_eq_true (show 0 < vm m2 4 i by omega)]
          show foundV (vm m2) a i * vm m2 4 i = vm m2 4 i * foundV (vm m2) a i
          rw [Int.mul_comm]
  · have e := q3 c
    subst e
    refine ⟨rr (by omega), fun _ => hR m _ ⟨ask, ?_⟩, fun q => absurd rfl q⟩
    by_cases cn : 0 ≤ n ∧ n < μ 202 0
    · rw [onM_yes cn]
      unfold meanT
      rw [if_neg (fun q => c ⟨cn, q⟩)]
    · exact (onM_no cn).symm
theorem ct_X11_mean : Ct mX11_mean 3 66 0 0 (nrmS S_X11_mean) := by
  refine ct_vm (own := RX11) (by decide +kernel) rfl ?_ ?_
  · intro as μ Q hS
    unfold S_X11_mean at hS
    split at hS
    · exact Nat.le_of_ble_eq_true rfl
    · exact hS.elim
  · intro as μ R hS
    unfold S_X11_mean at hS
    split at hS
    · exact body_X11_mean hS.1 hS.2
    · exact hS.elim
def P_X11_where (o n k : Int) (μ : Mem) : Prop := o = 201 ∧ SOk (stM μ) ∧ r32 n ∧ r32 k
def Q_X11_where (_ n k : Int) (μ μ' : Mem) (r : Int) : Prop := AskM μ μ' ∧ r = onT (stM μ).1 n (-1) (whereT k)
def S_X11_where : S0t := fun as μ Q => match as with
  | [(2, x0), (0, x1), (0, x2)] => P_X11_where x0 x1 x2 μ ∧ ∀ (μ' : Mem) (r : Int), Q_X11_where x0 x1 x2 μ μ' r → Q μ' (some (kI r))
  | _ => False
theorem mono_X11_where : Mono S_X11_where := by
  intro as μ Q Q' h hS
  unfold S_X11_where at hS ⊢
  split at hS
  · exact ⟨hS.1, fun μ' r q => h _ _ (hS.2 _ _ q)⟩
  · exact hS.elim
def iX11_where : Inf := (kX11_where, fTX11, pTX11, cTX11, lTX11, sTX11, [(234, 0, 1, 11, S_X11_looks), (162, 1, 3, 0, S_X11_isIn), (209, 0, 1, 11, S_X11_of), (237, 0, 1, 11, S_X11_walkAt), (244, 0, 2, 11, S_X11_comes)])
theorem ok_X11_where : infOK iX11_where mX11_where RX11 3 66 := ⟨kkX11_where, fTX11_ok, pTX11_ok _, cTX11_ok, lTX11_ok, sTX11_ok, c_cons ⟨mX11_looks, 2, 45, ct_X11_looks, mmX11_looks, vvX11_looks, lkX11_234, ⟨by decide, by decide⟩, ⟨_, _, rfl⟩, by decide, mono_X11_looks⟩ (c_cons ⟨mX11_isIn, 0, 0, ct_X11_isIn, mmX11_isIn, stX11_isIn, lkX11_162, ⟨by decide, by decide⟩, mono_X11_isIn⟩ (c_cons ⟨mX11_of, 0, 0, ct_X11_of, mmX11_of, vvX11_of, lkX11_209, ⟨by decide, by decide⟩, ⟨_, _, rfl⟩, by decide, mono_X11_of⟩ (c_cons ⟨mX11_walkAt, 0, 0, ct_X11_walkAt, mmX11_walkAt, vvX11_walkAt, lkX11_237, ⟨by decide, by decide⟩, ⟨_, _, rfl⟩, by decide, mono_X11_walkAt⟩ (c_cons ⟨mX11_comes, 1, 21, ct_X11_comes, mmX11_comes, vvX11_comes, lkX11_244, ⟨by decide, by decide⟩, ⟨_, _, rfl⟩, by decide, mono_X11_comes⟩ (c_nil)))))⟩
theorem mt_X11_where : mtOK [] RX11 3 66 := mt_nil
abbrev V_X11_where (R : Mem → Option AV → Prop) (pc : Nat) (lc : List (Nat × AV)) (μ : Mem) : Prop := VM mX11_where RX11 3 66 R pc lc [] μ
set_option maxRecDepth 20000 in
theorem vc_X11_where_0 {R : Mem → Option AV → Prop} {n k : Int} {μ : Mem} (H : P_X11_looks 201 n μ ∧ (∀ (μ1 : Mem) (rv2 : Int), Q_X11_looks 201 n μ μ1 rv2 → r32 rv2 ∧ ((rv2 = 0) → R μ1 (some (kI (-1)))) ∧ (¬ (rv2 = 0) → P_X11_isIn k 0 1 μ1 ∧ r32 (F_X11_isIn k 0 1 μ1) ∧ ((¬ (F_X11_isIn k 0 1 μ1) = 0) → V_X11_where R 30 [(0, kR 201), (2, kI k), (3, kI (-1)), (4, kI 0), (5, kI 0), (6, kI 0)] μ1) ∧ (¬ (¬ (F_X11_isIn k 0 1 μ1) = 0) → R μ1 (some (kI (-1))))))) : V_X11_where R 0 [(0, kR 201), (1, kI n), (2, kI k)] μ := by
  refine vm_step2 mt_X11_where ok_X11_where [(30, [0, 2, 3, 4, 5, 6]), (67, [0, 2, 3, 4, 5, 6]), (97, [0, 2, 3, 4, 5, 6, 7, 8])] 1000 ?_
  show isC 201 11 ∧ P_X11_looks 201 n μ ∧ (∀ (μ1 : Mem) (rv2 : Int), Q_X11_looks 201 n μ μ1 rv2 → r32 rv2 ∧ ((rv2 = 0) → R μ1 (some (kI (-1)))) ∧ (¬ (rv2 = 0) → P_X11_isIn k 0 1 μ1 ∧ r32 (F_X11_isIn k 0 1 μ1) ∧ ((¬ (F_X11_isIn k 0 1 μ1) = 0) → V_X11_where R 30 [(0, kR 201), (2, kI k), (3, kI (-1)), (4, kI 0), (5, kI 0), (6, kI 0)] μ1) ∧ (¬ (¬ (F_X11_isIn k 0 1 μ1) = 0) → R μ1 (some (kI (-1))))))
  exact ⟨c_201, H.1, fun μ1 rv2 hq3 => ⟨(H.2 μ1 rv2 hq3).1, fun hc5 => ((H.2 μ1 rv2 hq3).2.1 hc5), fun hc5 => ⟨((H.2 μ1 rv2 hq3).2.2 hc5).1, ⟨((H.2 μ1 rv2 hq3).2.2 hc5).2.1, fun hc4 => (((H.2 μ1 rv2 hq3).2.2 hc5).2.2.1 hc4), fun hc4 => (((H.2 μ1 rv2 hq3).2.2 hc5).2.2.2 hc4)⟩⟩⟩⟩
set_option maxRecDepth 20000 in
theorem vc_X11_where_30 {R : Mem → Option AV → Prop} {k best high ws w : Int} {μ : Mem} (H : P_X11_of 201 4 μ ∧ r32 w ∧ r32 (F_X11_of 201 4 μ) ∧ (((F_X11_of 201 4 μ) ≤ w) → V_X11_where R 67 [(0, kR 201), (2, kI k), (3, kI best), (4, kI high), (5, kI ws), (6, kI 0)] μ) ∧ (¬ ((F_X11_of 201 4 μ) ≤ w) → P_X11_walkAt 201 w μ ∧ (0 ≤ ((F_X11_walkAt 201 w μ) + 1) ∧ ((F_X11_walkAt 201 w μ) + 1) < 5160) ∧ V_X11_where R 30 [(0, kR 201), (2, kI k), (3, kI best), (4, kI high), (5, kI (ws + (μ 202 ((F_X11_walkAt 201 w μ) + 1)))), (6, kI (w + 1))] μ)) : V_X11_where R 30 [(0, kR 201), (2, kI k), (3, kI best), (4, kI high), (5, kI ws), (6, kI w)] μ := by
  refine vm_step2 mt_X11_where ok_X11_where [(30, [0, 2, 3, 4, 5, 6]), (67, [0, 2, 3, 4, 5, 6]), (97, [0, 2, 3, 4, 5, 6, 7, 8])] 1000 ?_
  show isC 201 11 ∧ P_X11_of 201 4 μ ∧ (r32 w ∧ r32 (F_X11_of 201 4 μ)) ∧ (((F_X11_of 201 4 μ) ≤ w) → V_X11_where R 67 [(0, kR 201), (2, kI k), (3, kI best), (4, kI high), (5, kI ws), (6, kI 0)] μ) ∧ (¬ ((F_X11_of 201 4 μ) ≤ w) → isC 201 11 ∧ isC 201 11 ∧ P_X11_walkAt 201 w μ ∧ inA 202 0 ((F_X11_walkAt 201 w μ) + 1) ∧ V_X11_where R 30 [(0, kR 201), (2, kI k), (3, kI best), (4, kI high), (5, kI (ws + (μ 202 ((F_X11_walkAt 201 w μ) + 1)))), (6, kI (w + 1))] μ)
  exact ⟨c_201, H.1, ⟨⟨H.2.1, H.2.2.1⟩, fun hc6 => (H.2.2.2.1 hc6), fun hc6 => ⟨c_201, ⟨c_201, (H.2.2.2.2 hc6).1, ⟨isArr.in a_202 (H.2.2.2.2 hc6).2.1.1 (H.2.2.2.2 hc6).2.1.2, (H.2.2.2.2 hc6).2.2⟩⟩⟩⟩⟩
set_option maxRecDepth 20000 in
theorem vc_X11_where_67 {R : Mem → Option AV → Prop} {k best high ws w : Int} {μ : Mem} (H : r32 w ∧ r32 (μ 201 13) ∧ (((μ 201 13) ≤ w) → r32 ws ∧ ((¬ ws = 0) → r32 k ∧ ((¬ k = 0) → R μ (some (kI high))) ∧ (¬ (¬ k = 0) → R μ (some (kI best)))) ∧ (¬ (¬ ws = 0) → R μ (some (kI (-1))))) ∧ (¬ ((μ 201 13) ≤ w) → P_X11_of 201 (10 + w) μ ∧ r32 (F_X11_of 201 (10 + w) μ) ∧ ((¬ (F_X11_of 201 (10 + w) μ) = 0) → V_X11_where R 97 [(0, kR 201), (2, kI k), (3, kI best), (4, kI high), (5, kI ws), (6, kI w), (7, kI 0), (8, kI 0)] μ) ∧ (¬ (¬ (F_X11_of 201 (10 + w) μ) = 0) → V_X11_where R 67 [(0, kR 201), (2, kI k), (3, kI best), (4, kI high), (5, kI ws), (6, kI (w + 1))] μ))) : V_X11_where R 67 [(0, kR 201), (2, kI k), (3, kI best), (4, kI high), (5, kI ws), (6, kI w)] μ := by
  refine vm_step2 mt_X11_where ok_X11_where [(30, [0, 2, 3, 4, 5, 6]), (67, [0, 2, 3, 4, 5, 6]), (97, [0, 2, 3, 4, 5, 6, 7, 8])] 1000 ?_
  show isC 201 11 ∧ (r32 w ∧ r32 (μ 201 13)) ∧ (((μ 201 13) ≤ w) → r32 ws ∧ ((¬ ws = 0) → r32 k ∧ ((¬ k = 0) → R μ (some (kI high))) ∧ (¬ (¬ k = 0) → R μ (some (kI best)))) ∧ (¬ (¬ ws = 0) → R μ (some (kI (-1))))) ∧ (¬ ((μ 201 13) ≤ w) → isC 201 11 ∧ P_X11_of 201 (10 + w) μ ∧ r32 (F_X11_of 201 (10 + w) μ) ∧ ((¬ (F_X11_of 201 (10 + w) μ) = 0) → V_X11_where R 97 [(0, kR 201), (2, kI k), (3, kI best), (4, kI high), (5, kI ws), (6, kI w), (7, kI 0), (8, kI 0)] μ) ∧ (¬ (¬ (F_X11_of 201 (10 + w) μ) = 0) → V_X11_where R 67 [(0, kR 201), (2, kI k), (3, kI best), (4, kI high), (5, kI ws), (6, kI (w + 1))] μ))
  exact ⟨c_201, ⟨⟨H.1, H.2.1⟩, fun hc10 => ⟨(H.2.2.1 hc10).1, fun hc8 => ⟨((H.2.2.1 hc10).2.1 hc8).1, fun hc7 => (((H.2.2.1 hc10).2.1 hc8).2.1 hc7), fun hc7 => (((H.2.2.1 hc10).2.1 hc8).2.2 hc7)⟩, fun hc8 => ((H.2.2.1 hc10).2.2 hc8)⟩, fun hc10 => ⟨c_201, (H.2.2.2 hc10).1, ⟨(H.2.2.2 hc10).2.1, fun hc9 => ((H.2.2.2 hc10).2.2.1 hc9), fun hc9 => ((H.2.2.2 hc10).2.2.2 hc9)⟩⟩⟩⟩
set_option maxRecDepth 20000 in
theorem vc_X11_where_97 {R : Mem → Option AV → Prop} {k best high ws w sum u : Int} {μ : Mem} (H : P_X11_of 201 4 μ ∧ r32 u ∧ r32 (F_X11_of 201 4 μ) ∧ (((F_X11_of 201 4 μ) ≤ u) → r32 best ∧ ((best < 0) → V_X11_where R 67 [(0, kR 201), (2, kI k), (3, kI w), (4, kI sum), (5, kI ws), (6, kI (w + 1))] μ) ∧ (¬ (best < 0) → r32 sum ∧ r32 high ∧ ((high < sum) → V_X11_where R 67 [(0, kR 201), (2, kI k), (3, kI w), (4, kI sum), (5, kI ws), (6, kI (w + 1))] μ) ∧ (¬ (high < sum) → V_X11_where R 67 [(0, kR 201), (2, kI k), (3, kI best), (4, kI high), (5, kI ws), (6, kI (w + 1))] μ))) ∧ (¬ ((F_X11_of 201 4 μ) ≤ u) → P_X11_walkAt 201 u μ ∧ (0 ≤ ((F_X11_walkAt 201 u μ) + 1) ∧ ((F_X11_walkAt 201 u μ) + 1) < 5160) ∧ P_X11_comes 201 u w μ ∧ r32 (F_X11_comes 201 u w μ) ∧ ((0 ≤ (F_X11_comes 201 u w μ)) → P_X11_comes 201 u w μ ∧ V_X11_where R 97 [(0, kR 201), (2, kI k), (3, kI best), (4, kI high), (5, kI ws), (6, kI w), (7, kI (sum + ((μ 202 ((F_X11_walkAt 201 u μ) + 1)) * (F_X11_comes 201 u w μ)))), (8, kI (u + 1))] μ) ∧ (¬ (0 ≤ (F_X11_comes 201 u w μ)) → V_X11_where R 97 [(0, kR 201), (2, kI k), (3, kI best), (4, kI high), (5, kI ws), (6, kI w), (7, kI (sum + ((μ 202 ((F_X11_walkAt 201 u μ) + 1)) * 999))), (8, kI (u + 1))] μ))) : V_X11_where R 97 [(0, kR 201), (2, kI k), (3, kI best), (4, kI high), (5, kI ws), (6, kI w), (7, kI sum), (8, kI u)] μ := by
  refine vm_step2 mt_X11_where ok_X11_where [(30, [0, 2, 3, 4, 5, 6]), (67, [0, 2, 3, 4, 5, 6]), (97, [0, 2, 3, 4, 5, 6, 7, 8])] 1000 ?_
  show isC 201 11 ∧ P_X11_of 201 4 μ ∧ (r32 u ∧ r32 (F_X11_of 201 4 μ)) ∧ (((F_X11_of 201 4 μ) ≤ u) → r32 best ∧ ((best < 0) → V_X11_where R 67 [(0, kR 201), (2, kI k), (3, kI w), (4, kI sum), (5, kI ws), (6, kI (w + 1))] μ) ∧ (¬ (best < 0) → (r32 sum ∧ r32 high) ∧ ((high < sum) → V_X11_where R 67 [(0, kR 201), (2, kI k), (3, kI w), (4, kI sum), (5, kI ws), (6, kI (w + 1))] μ) ∧ (¬ (high < sum) → V_X11_where R 67 [(0, kR 201), (2, kI k), (3, kI best), (4, kI high), (5, kI ws), (6, kI (w + 1))] μ))) ∧ (¬ ((F_X11_of 201 4 μ) ≤ u) → isC 201 11 ∧ isC 201 11 ∧ P_X11_walkAt 201 u μ ∧ inA 202 0 ((F_X11_walkAt 201 u μ) + 1) ∧ isC 201 11 ∧ P_X11_comes 201 u w μ ∧ r32 (F_X11_comes 201 u w μ) ∧ ((0 ≤ (F_X11_comes 201 u w μ)) → isC 201 11 ∧ P_X11_comes 201 u w μ ∧ V_X11_where R 97 [(0, kR 201), (2, kI k), (3, kI best), (4, kI high), (5, kI ws), (6, kI w), (7, kI (sum + ((μ 202 ((F_X11_walkAt 201 u μ) + 1)) * (F_X11_comes 201 u w μ)))), (8, kI (u + 1))] μ) ∧ (¬ (0 ≤ (F_X11_comes 201 u w μ)) → V_X11_where R 97 [(0, kR 201), (2, kI k), (3, kI best), (4, kI high), (5, kI ws), (6, kI w), (7, kI (sum + ((μ 202 ((F_X11_walkAt 201 u μ) + 1)) * 999))), (8, kI (u + 1))] μ))
  exact ⟨c_201, H.1, ⟨⟨H.2.1, H.2.2.1⟩, fun hc14 => ⟨(H.2.2.2.1 hc14).1, fun hc12 => ((H.2.2.2.1 hc14).2.1 hc12), fun hc12 => ⟨⟨((H.2.2.2.1 hc14).2.2 hc12).1, ((H.2.2.2.1 hc14).2.2 hc12).2.1⟩, fun hc11 => (((H.2.2.2.1 hc14).2.2 hc12).2.2.1 hc11), fun hc11 => (((H.2.2.2.1 hc14).2.2 hc12).2.2.2 hc11)⟩⟩, fun hc14 => ⟨c_201, ⟨c_201, (H.2.2.2.2 hc14).1, ⟨isArr.in a_202 (H.2.2.2.2 hc14).2.1.1 (H.2.2.2.2 hc14).2.1.2, ⟨c_201, (H.2.2.2.2 hc14).2.2.1, ⟨(H.2.2.2.2 hc14).2.2.2.1, fun hc13 => ⟨c_201, ((H.2.2.2.2 hc14).2.2.2.2.1 hc13).1, ((H.2.2.2.2 hc14).2.2.2.2.1 hc13).2⟩, fun hc13 => ((H.2.2.2.2 hc14).2.2.2.2.2 hc13)⟩⟩⟩⟩⟩⟩⟩
/-- the model's best place so far -/
def WhP (v : TV) (n best high : Int) : Prop := (best = -1 ∧ high = 0 ∧ lastP v n = (-1, -1) ∧ ∀ i : Int, 0 ≤ i → i < n → v 4 i ≤ 0) ∨ ((0 ≤ best ∧ best < n) ∧ lastP v n = (best, high) ∧ high = weighedV v best)
theorem WhP_step {v : TV} {a best high : Int} (a0 : 0 ≤ a) (h : WhP v a best high) (hw : 0 ≤ weighedV v a ∧ weighedV v a ≤ 1774080) (h4 : 0 ≤ v 4 a) : (v 4 a = 0 → WhP v (a + 1) best high) ∧ (0 < v 4 a → (best < 0 ∨ high < weighedV v a) → WhP v (a + 1) a (weighedV v a)) ∧ (0 < v 4 a → ¬ best < 0 → ¬ high < weighedV v a → WhP v (a + 1) best high) := by
  have e := lastP_s (v := v) a0
  have ge := lastP_ge v a a0
  refine ⟨fun c => ?_, fun c g => ?_, fun c g g2 => ?_⟩
  · rw [show (if v 4 a ≤ 0 then (-1 : Int) else weighedV v a) = -1 from if_pos (by omega), if_neg (by omega)] at e
    rcases h with ⟨h1, h2, h3, h5⟩ | ⟨h1, h2, h3⟩
    · refine Or.inl ⟨h1, h2, by rw [e, h3], fun i i0 i1 => ?_⟩
      by_cases q : i = a
      · rw [q]; omega
      · exact h5 i i0 (by omega)
    · exact Or.inr ⟨by omega, by rw [e, h2], h3⟩
  · rw [show (if v 4 a ≤ 0 then (-1 : Int) else weighedV v a) = weighedV v a from if_neg (by omega)] at e
    refine Or.inr ⟨by omega, ?_, rfl⟩
    rcases h with ⟨h1, h2, h3, h5⟩ | ⟨h1, h2, h3⟩
    · rw [e, h3, if_pos (by show (-1 : Int) < weighedV v a; omega)]
    · rw [e, h2, if_pos (by show high < weighedV v a; omega)]
  · rw [show (if v 4 a ≤ 0 then (-1 : Int) else weighedV v a) = weighedV v a from if_neg (by omega)] at e
    rcases h with ⟨h1, h2, h3, h5⟩ | ⟨h1, h2, h3⟩
    · omega
    · refine Or.inr ⟨by omega, ?_, h3⟩
      rw [e, h2, if_neg (by show ¬ high < weighedV v a; omega)]
theorem WhP_bd {v : TV} (ok : VOk v) {n best high : Int} (hn : n ≤ 8) (h : WhP v n best high) : (-1 ≤ best ∧ best < 8) ∧ 0 ≤ high ∧ high ≤ 1774080 := by
  rcases h with ⟨h1, h2, h3, h5⟩ | ⟨h1, h2, h3⟩
  · omega
  · have := weighed_ok ok (p := best) (v 8 0) ok.1.2.2.2.2.2.2.2.1.1 (Int.le_refl _)
    unfold weighedV at h3
    omega
theorem WhP_fin {v : TV} (ok : VOk v) {best high : Int} (h : WhP v (v 0 0) best high) : (lastP v (v 0 0)).1 = best ∧ 0 ≤ best ∧ high = weighedV v best := by
  rcases h with ⟨h1, h2, h3, h5⟩ | ⟨h1, h2, h3⟩
  · exfalso
    have hp := ok.1.1
    have := ok.2.2.2.1
    unfold pozV at this
    have h0 := sm_bd (f := v 4) (n := v 0 0) (c := 0) (d := 0) (fun i i0 i1 => ⟨(ok.1.2.2.2.1 i i0 (by omega)).1.1, h5 i i0 i1⟩) (by omega)
    omega
  · exact ⟨by rw [h2], h1.1, h3⟩
theorem body_X11_where {o n k : Int} {μ : Mem} {R : Mem → Option AV → Prop} (h : P_X11_where o n k μ) (hR : ∀ (μ' : Mem) (r : Int), Q_X11_where o n k μ μ' r → R μ' (some (kI r))) : V_X11_where R 0 [(0, kR o), (1, kI n), (2, kI k)] μ := by
  obtain ⟨rfl, hs, r_n, r_k⟩ := h
  refine vc_X11_where_0 ⟨⟨rfl, hs, r_n⟩, fun m rv q => ?_⟩
  obtain ⟨q1, q3, q4⟩ := q
  have ask : AskM μ m := fun z hz => q1 z (by omega) (by omega) (by omega)
  by_cases c : 0 ≤ n ∧ n < μ 202 0
  · obtain ⟨rfl, hl, hv⟩ := q4 c
    have hb := hl.1
    have ok := hb.v
    have hp := hb.p
    have hpe := hb.2.1
    have fin : ∀ (m' : Mem) (x : Int), AskM m m' → x = (whereT k) (vm m) → R m' (some (kI x)) := fun m' x ha hx => hR m' x ⟨ask.trans ha, by rw [hx, onM_yes c, ← hv]⟩
    have a0 := AskM_0 m
    refine ⟨rr (by omega), fun q => absurd q (by omega), fun _ => ?_⟩
    have ir := isIn_r (x := k) (lo := 0) (hi := 1) (μ := m)
    have vok : VOk (vm m) := hb.2.2
    have w8 := ok.2.2.2.2.2.2.2.1
    have e8 : F_X11_of 201 4 m = vm m 8 0 := rfl
    unfold whereT at fin
    refine ⟨⟨r_k, rr (by omega), rr (by omega)⟩, rr (by omega), fun d => ?_, fun d => fin m _ a0 ?_⟩
    · have dk := isIn_1.mp d
      -- the weights together
      have k1 := up_ind (P := fun w => V_X11_where R 30 [(0, kR 201), (2, kI k), (3, kI (-1)), (4, kI 0), (5, kI (sm (vm m 10) w)), (6, kI w)] m) (lo := 0) (hi := vm m 8 0) ?_ ?_
      · exact k1 0 (by omega) w8.1
      · intro w w0 w1 ih
        have e10 : m 202 (F_X11_walkAt 201 w m + 1) = vm m 10 w := by
          rw [v10_ m w0 w1]
          unfold F_X11_walkAt
          rw [show m 201 12 + 104 + 18 * w + 1 = m 201 12 + 105 + 18 * w by omega]
        have hb1 := hb.1
        have ew : F_X11_walkAt 201 w m = m 201 12 + 104 + 18 * w := rfl
        refine vc_X11_where_30 ?_
        rw [e8, e10]
        rw [sm_s w0] at ih
        exact ⟨⟨rfl, hb.1, by omega, by omega⟩, rr (by omega), rr (by omega), fun c => absurd c (by omega), fun _ => ⟨rfl, by omega, ih⟩⟩
      · refine vc_X11_where_30 ?_
        rw [e8]
        refine ⟨⟨rfl, hb.1, by omega, by omega⟩, rr (by omega), rr (by omega), fun _ => ?_, fun c => absurd (Int.le_refl _) c⟩
        have hsw := sm_bd (f := vm m 10) (n := vm m 8 0) (c := 0) (d := 99) (fun w w0 w1 => (ok.2.2.2.2.2.2.2.2.1 w w0 w1).2.1) w8.1
        obtain ⟨ws, hws⟩ : ∃ ws, ws = sm (vm m 10) (vm m 8 0) := ⟨_, rfl⟩
        rw [← hws] at hsw ⊢
        -- the places
        refine up_ind (P := fun a => ∀ best high : Int, (WhP (vm m) a best high) → V_X11_where R 67 [(0, kR 201), (2, kI k), (3, kI best), (4, kI high), (5, kI ws), (6, kI a)] m) (lo := 0) (hi := m 201 13) ?_ ?_ 0 (by omega) (by omega) (-1) 0 (Or.inl ⟨rfl, rfl, rfl, fun i i0 i1 => absurd i1 (by omega)⟩)
        · intro a a0' a1 ih best high hlp
          have h4 := (ok.2.2.2.1 a a0' (by omega)).1
          have wv := weighed_ok vok (p := a) (vm m 8 0) w8.1 (Int.le_refl _)
          have hst := WhP_step a0' hlp wv h4.1
          have hbd := WhP_bd vok (by omega) hlp
          refine vc_X11_where_67 ?_
          rw [of_4 a0' (by omega)]
          refine ⟨rr (by omega), rr (by omega), fun c => absurd c (by omega), fun _ => ⟨⟨rfl, hb.1, by omega, by omega⟩, rr (by omega), fun c => ?_, fun c => ih best high (hst.1 (by omega))⟩⟩
          -- the walks
          have k2 := up_ind (P := fun u => V_X11_where R 97 [(0, kR 201), (2, kI k), (3, kI best), (4, kI high), (5, kI ws), (6, kI a), (7, kI (sm (fun w => vm m 10 w * (if foundV (vm m) w a = -1 then 999 else foundV (vm m) w a)) u)), (8, kI u)] m) (lo := 0) (hi := vm m 8 0) ?_ ?_
          · exact k2 0 (by omega) w8.1
          · intro u u0 u1 ihu
            have e10 : m 202 (F_X11_walkAt 201 u m + 1) = vm m 10 u := by
              rw [v10_ m u0 u1]
              unfold F_X11_walkAt
              rw [show m 201 12 + 104 + 18 * u + 1 = m 201 12 + 105 + 18 * u by omega]
            have hb1 := hb.1
            have ew : F_X11_walkAt 201 u m = m 201 12 + 104 + 18 * u := rfl
            have hf := found_ok vok (p := a) u0 u1
            refine vc_X11_where_97 ?_
            rw [e8, e10]
            unfold F_X11_comes
            rw [sm_s u0] at ihu
            refine ⟨⟨rfl, hb.1, by omega, by omega⟩, rr (by omega), rr (by omega), fun c => absurd c (by omega), fun _ => ⟨rfl, by omega, ⟨rfl, hl, ⟨u0, u1⟩, rr (by omega)⟩, rr (by omega), fun f0 => ⟨⟨rfl, hl, ⟨u0, u1⟩, rr (by omega)⟩, ?_⟩, fun f0 => ?_⟩⟩
            · rw [if_neg (by omega)] at ihu; exact ihu
            · rw [if_pos (by omega)] at ihu; exact ihu
          · refine vc_X11_where_97 ?_
            rw [e8]
            refine ⟨⟨rfl, hb.1, by omega, by omega⟩, rr (by omega), rr (by omega), fun _ => ⟨rr (by omega), fun g => ih _ _ (hst.2.1 (by omega) (Or.inl g)), fun g => ⟨rr (by omega), rr (by omega), fun g2 => ih _ _ (hst.2.1 (by omega) (Or.inr g2)), fun g2 => ih _ _ (hst.2.2 (by omega) g g2)⟩⟩, fun c => absurd (Int.le_refl _) c⟩
        · intro best high hlp
          have hbd := WhP_bd vok (by omega) hlp
          have hfin := WhP_fin vok (by rw [← hpe]; exact hlp)
          refine vc_X11_where_67 ⟨rr (by omega), rr (by omega), fun _ => ⟨rr (by omega), fun c => ⟨r_k, fun e => fin m _ a0 ?_, fun e => fin m _ a0 ?_⟩, fun c => fin m _ a0 ?_⟩, fun c => absurd (Int.le_refl _) c⟩
          · have ew : whereV (vm m) = best := by unfold whereV; rw [if_neg (by omega)]; exact hfin.1
            rw [ew, if_neg (by omega), if_neg e]
            exact hfin.2.2
          · have ew : whereV (vm m) = best := by unfold whereV; rw [if_neg (by omega)]; exact hfin.1
            rw [ew, if_neg (by omega), if_pos (Classical.byContradiction e)]
          · have ew : whereV (vm m) = -1 := by unfold whereV; rw [if_pos (by omega)]
            rw [ew, if_pos (Or.inr rfl)]
    · rw [if_pos (Or.inl (fun q => d (isIn_1.mpr q)))]
  · have e := q3 c
    subst e
    exact ⟨rr (by omega), fun _ => hR m _ ⟨ask, (onM_no c).symm⟩, fun q => absurd rfl q⟩
theorem ct_X11_where : Ct mX11_where 3 66 0 0 (nrmS S_X11_where) := by
  refine ct_vm (own := RX11) (by decide +kernel) rfl ?_ ?_
  · intro as μ Q hS
    unfold S_X11_where at hS
    split at hS
    · exact Nat.le_of_ble_eq_true rfl
    · exact hS.elim
  · intro as μ R hS
    unfold S_X11_where at hS
    split at hS
    · exact body_X11_where hS.1 hS.2
    · exact hS.elim
def P_X11_rightOf (o h s : Int) (μ : Mem) : Prop := o = 201 ∧ MB μ ∧ (0 ≤ h ∧ h ≤ 12) ∧ 0 ≤ s ∧ s < 256
def F_X11_rightOf (_ h s : Int) (μ : Mem) : Int := rightV (vm μ) h s
def S_X11_rightOf : S0t := fun as μ Q => match as with
  | [(2, x0), (0, x1), (0, x2)] => P_X11_rightOf x0 x1 x2 μ ∧ Q μ (some (kI (F_X11_rightOf x0 x1 x2 μ)))
  | _ => False
theorem mono_X11_rightOf : Mono S_X11_rightOf := by
  intro as μ Q Q' h hS
  unfold S_X11_rightOf at hS ⊢
  split at hS
  · exact ⟨hS.1, h _ _ hS.2⟩
  · exact hS.elim
def iX11_rightOf : Inf := (kX11_rightOf, fTX11, pTX11, cTX11, lTX11, sTX11, [(209, 0, 1, 11, S_X11_of)])
theorem ok_X11_rightOf : infOK iX11_rightOf mX11_rightOf RX11 1 21 := ⟨kkX11_rightOf, fTX11_ok, pTX11_ok _, cTX11_ok, lTX11_ok, sTX11_ok, c_cons ⟨mX11_of, 0, 0, ct_X11_of, mmX11_of, vvX11_of, lkX11_209, ⟨by decide, by decide⟩, ⟨_, _, rfl⟩, by decide, mono_X11_of⟩ (c_nil)⟩
theorem mt_X11_rightOf : mtOK [] RX11 1 21 := mt_nil
abbrev V_X11_rightOf (R : Mem → Option AV → Prop) (pc : Nat) (lc : List (Nat × AV)) (μ : Mem) : Prop := VM mX11_rightOf RX11 1 21 R pc lc [] μ
set_option maxRecDepth 20000 in
theorem vc_X11_rightOf_0 {R : Mem → Option AV → Prop} {h s : Int} {μ : Mem} (H : V_X11_rightOf R 8 [(0, kR 201), (1, kI h), (2, kI s), (3, kI 0), (4, kI 0), (5, kI 0)] μ) : V_X11_rightOf R 0 [(0, kR 201), (1, kI h), (2, kI s)] μ := by
  refine vm_step2 mt_X11_rightOf ok_X11_rightOf [(8, [0, 1, 2, 3, 4, 5])] 1000 ?_
  show V_X11_rightOf R 8 [(0, kR 201), (1, kI h), (2, kI s), (3, kI 0), (4, kI 0), (5, kI 0)] μ
  exact H
set_option maxRecDepth 20000 in
theorem vc_X11_rightOf_8 {R : Mem → Option AV → Prop} {h s i1 n1 a : Int} {μ : Mem} (H : r32 a ∧ r32 (μ 201 13) ∧ (((μ 201 13) ≤ a) → R μ (some (kI (i1 + n1)))) ∧ (¬ ((μ 201 13) ≤ a) → r32 (band (bshr s a) 1) ∧ ((¬ (band (bshr s a) 1) = (1 : Int)) → P_X11_of 201 (10 + a) μ ∧ P_X11_of 201 (10 + a) μ ∧ r32 ((F_X11_of 201 (10 + a) μ) * (12 - h)) ∧ r32 i1 ∧ ((((F_X11_of 201 (10 + a) μ) * (12 - h)) ≤ i1) → r32 ((F_X11_of 201 (10 + a) μ) * (12 - (12 - h))) ∧ r32 n1 ∧ ((((F_X11_of 201 (10 + a) μ) * (12 - (12 - h))) ≤ n1) → V_X11_rightOf R 8 [(0, kR 201), (1, kI h), (2, kI s), (3, kI i1), (4, kI n1), (5, kI (a + 1))] μ) ∧ (¬ (((F_X11_of 201 (10 + a) μ) * (12 - (12 - h))) ≤ n1) → V_X11_rightOf R 8 [(0, kR 201), (1, kI h), (2, kI s), (3, kI i1), (4, kI ((F_X11_of 201 (10 + a) μ) * (12 - (12 - h)))), (5, kI (a + 1))] μ)) ∧ (¬ (((F_X11_of 201 (10 + a) μ) * (12 - h)) ≤ i1) → r32 ((F_X11_of 201 (10 + a) μ) * (12 - (12 - h))) ∧ r32 n1 ∧ ((((F_X11_of 201 (10 + a) μ) * (12 - (12 - h))) ≤ n1) → V_X11_rightOf R 8 [(0, kR 201), (1, kI h), (2, kI s), (3, kI ((F_X11_of 201 (10 + a) μ) * (12 - h))), (4, kI n1), (5, kI (a + 1))] μ) ∧ (¬ (((F_X11_of 201 (10 + a) μ) * (12 - (12 - h))) ≤ n1) → V_X11_rightOf R 8 [(0, kR 201), (1, kI h), (2, kI s), (3, kI ((F_X11_of 201 (10 + a) μ) * (12 - h))), (4, kI ((F_X11_of 201 (10 + a) μ) * (12 - (12 - h)))), (5, kI (a + 1))] μ))) ∧ (¬ (¬ (band (bshr s a) 1) = (1 : Int)) → P_X11_of 201 (10 + a) μ ∧ P_X11_of 201 (10 + a) μ ∧ r32 ((F_X11_of 201 (10 + a) μ) * h) ∧ r32 i1 ∧ ((((F_X11_of 201 (10 + a) μ) * h) ≤ i1) → r32 ((F_X11_of 201 (10 + a) μ) * (12 - h)) ∧ r32 n1 ∧ ((((F_X11_of 201 (10 + a) μ) * (12 - h)) ≤ n1) → V_X11_rightOf R 8 [(0, kR 201), (1, kI h), (2, kI s), (3, kI i1), (4, kI n1), (5, kI (a + 1))] μ) ∧ (¬ (((F_X11_of 201 (10 + a) μ) * (12 - h)) ≤ n1) → V_X11_rightOf R 8 [(0, kR 201), (1, kI h), (2, kI s), (3, kI i1), (4, kI ((F_X11_of 201 (10 + a) μ) * (12 - h))), (5, kI (a + 1))] μ)) ∧ (¬ (((F_X11_of 201 (10 + a) μ) * h) ≤ i1) → r32 ((F_X11_of 201 (10 + a) μ) * (12 - h)) ∧ r32 n1 ∧ ((((F_X11_of 201 (10 + a) μ) * (12 - h)) ≤ n1) → V_X11_rightOf R 8 [(0, kR 201), (1, kI h), (2, kI s), (3, kI ((F_X11_of 201 (10 + a) μ) * h)), (4, kI n1), (5, kI (a + 1))] μ) ∧ (¬ (((F_X11_of 201 (10 + a) μ) * (12 - h)) ≤ n1) → V_X11_rightOf R 8 [(0, kR 201), (1, kI h), (2, kI s), (3, kI ((F_X11_of 201 (10 + a) μ) * h)), (4, kI ((F_X11_of 201 (10 + a) μ) * (12 - h))), (5, kI (a + 1))] μ))))) : V_X11_rightOf R 8 [(0, kR 201), (1, kI h), (2, kI s), (3, kI i1), (4, kI n1), (5, kI a)] μ := by
  refine vm_step2 mt_X11_rightOf ok_X11_rightOf [(8, [0, 1, 2, 3, 4, 5])] 1000 ?_
  show isC 201 11 ∧ (r32 a ∧ r32 (μ 201 13)) ∧ (((μ 201 13) ≤ a) → R μ (some (kI (i1 + n1)))) ∧ (¬ ((μ 201 13) ≤ a) → (r32 (band (bshr s a) 1) ∧ r32 (1 : Int)) ∧ ((¬ (band (bshr s a) 1) = (1 : Int)) → isC 201 11 ∧ P_X11_of 201 (10 + a) μ ∧ isC 201 11 ∧ P_X11_of 201 (10 + a) μ ∧ (r32 ((F_X11_of 201 (10 + a) μ) * (12 - h)) ∧ r32 i1) ∧ ((((F_X11_of 201 (10 + a) μ) * (12 - h)) ≤ i1) → (r32 ((F_X11_of 201 (10 + a) μ) * (12 - (12 - h))) ∧ r32 n1) ∧ ((((F_X11_of 201 (10 + a) μ) * (12 - (12 - h))) ≤ n1) → V_X11_rightOf R 8 [(0, kR 201), (1, kI h), (2, kI s), (3, kI i1), (4, kI n1), (5, kI (a + 1))] μ) ∧ (¬ (((F_X11_of 201 (10 + a) μ) * (12 - (12 - h))) ≤ n1) → V_X11_rightOf R 8 [(0, kR 201), (1, kI h), (2, kI s), (3, kI i1), (4, kI ((F_X11_of 201 (10 + a) μ) * (12 - (12 - h)))), (5, kI (a + 1))] μ)) ∧ (¬ (((F_X11_of 201 (10 + a) μ) * (12 - h)) ≤ i1) → (r32 ((F_X11_of 201 (10 + a) μ) * (12 - (12 - h))) ∧ r32 n1) ∧ ((((F_X11_of 201 (10 + a) μ) * (12 - (12 - h))) ≤ n1) → V_X11_rightOf R 8 [(0, kR 201), (1, kI h), (2, kI s), (3, kI ((F_X11_of 201 (10 + a) μ) * (12 - h))), (4, kI n1), (5, kI (a + 1))] μ) ∧ (¬ (((F_X11_of 201 (10 + a) μ) * (12 - (12 - h))) ≤ n1) → V_X11_rightOf R 8 [(0, kR 201), (1, kI h), (2, kI s), (3, kI ((F_X11_of 201 (10 + a) μ) * (12 - h))), (4, kI ((F_X11_of 201 (10 + a) μ) * (12 - (12 - h)))), (5, kI (a + 1))] μ))) ∧ (¬ (¬ (band (bshr s a) 1) = (1 : Int)) → isC 201 11 ∧ P_X11_of 201 (10 + a) μ ∧ isC 201 11 ∧ P_X11_of 201 (10 + a) μ ∧ (r32 ((F_X11_of 201 (10 + a) μ) * h) ∧ r32 i1) ∧ ((((F_X11_of 201 (10 + a) μ) * h) ≤ i1) → (r32 ((F_X11_of 201 (10 + a) μ) * (12 - h)) ∧ r32 n1) ∧ ((((F_X11_of 201 (10 + a) μ) * (12 - h)) ≤ n1) → V_X11_rightOf R 8 [(0, kR 201), (1, kI h), (2, kI s), (3, kI i1), (4, kI n1), (5, kI (a + 1))] μ) ∧ (¬ (((F_X11_of 201 (10 + a) μ) * (12 - h)) ≤ n1) → V_X11_rightOf R 8 [(0, kR 201), (1, kI h), (2, kI s), (3, kI i1), (4, kI ((F_X11_of 201 (10 + a) μ) * (12 - h))), (5, kI (a + 1))] μ)) ∧ (¬ (((F_X11_of 201 (10 + a) μ) * h) ≤ i1) → (r32 ((F_X11_of 201 (10 + a) μ) * (12 - h)) ∧ r32 n1) ∧ ((((F_X11_of 201 (10 + a) μ) * (12 - h)) ≤ n1) → V_X11_rightOf R 8 [(0, kR 201), (1, kI h), (2, kI s), (3, kI ((F_X11_of 201 (10 + a) μ) * h)), (4, kI n1), (5, kI (a + 1))] μ) ∧ (¬ (((F_X11_of 201 (10 + a) μ) * (12 - h)) ≤ n1) → V_X11_rightOf R 8 [(0, kR 201), (1, kI h), (2, kI s), (3, kI ((F_X11_of 201 (10 + a) μ) * h)), (4, kI ((F_X11_of 201 (10 + a) μ) * (12 - h))), (5, kI (a + 1))] μ))))
  exact ⟨c_201, ⟨⟨H.1, H.2.1⟩, fun hc8 => (H.2.2.1 hc8), fun hc8 => ⟨⟨(H.2.2.2 hc8).1, by unfold r32; omega⟩, fun hc7 => ⟨c_201, ((H.2.2.2 hc8).2.1 hc7).1, ⟨c_201, ((H.2.2.2 hc8).2.1 hc7).2.1, ⟨⟨((H.2.2.2 hc8).2.1 hc7).2.2.1, ((H.2.2.2 hc8).2.1 hc7).2.2.2.1⟩, fun hc3 => ⟨⟨(((H.2.2.2 hc8).2.1 hc7).2.2.2.2.1 hc3).1, (((H.2.2.2 hc8).2.1 hc7).2.2.2.2.1 hc3).2.1⟩, fun hc1 => ((((H.2.2.2 hc8).2.1 hc7).2.2.2.2.1 hc3).2.2.1 hc1), fun hc1 => ((((H.2.2.2 hc8).2.1 hc7).2.2.2.2.1 hc3).2.2.2 hc1)⟩, fun hc3 => ⟨⟨(((H.2.2.2 hc8).2.1 hc7).2.2.2.2.2 hc3).1, (((H.2.2.2 hc8).2.1 hc7).2.2.2.2.2 hc3).2.1⟩, fun hc2 => ((((H.2.2.2 hc8).2.1 hc7).2.2.2.2.2 hc3).2.2.1 hc2), fun hc2 => ((((H.2.2.2 hc8).2.1 hc7).2.2.2.2.2 hc3).2.2.2 hc2)⟩⟩⟩⟩, fun hc7 => ⟨c_201, ((H.2.2.2 hc8).2.2 hc7).1, ⟨c_201, ((H.2.2.2 hc8).2.2 hc7).2.1, ⟨⟨((H.2.2.2 hc8).2.2 hc7).2.2.1, ((H.2.2.2 hc8).2.2 hc7).2.2.2.1⟩, fun hc6 => ⟨⟨(((H.2.2.2 hc8).2.2 hc7).2.2.2.2.1 hc6).1, (((H.2.2.2 hc8).2.2 hc7).2.2.2.2.1 hc6).2.1⟩, fun hc4 => ((((H.2.2.2 hc8).2.2 hc7).2.2.2.2.1 hc6).2.2.1 hc4), fun hc4 => ((((H.2.2.2 hc8).2.2 hc7).2.2.2.2.1 hc6).2.2.2 hc4)⟩, fun hc6 => ⟨⟨(((H.2.2.2 hc8).2.2 hc7).2.2.2.2.2 hc6).1, (((H.2.2.2 hc8).2.2 hc7).2.2.2.2.2 hc6).2.1⟩, fun hc5 => ((((H.2.2.2 hc8).2.2 hc7).2.2.2.2.2 hc6).2.2.1 hc5), fun hc5 => ((((H.2.2.2 hc8).2.2 hc7).2.2.2.2.2 hc6).2.2.2 hc5)⟩⟩⟩⟩⟩⟩⟩
theorem max_put {x i : Int} : (x ≤ i → max i x = i) ∧ (¬ x ≤ i → max i x = x) := by
  constructor <;> omega
theorem body_X11_rightOf {o h s : Int} {μ : Mem} {R : Mem → Option AV → Prop} (hP : P_X11_rightOf o h s μ) (hR : R μ (some (kI (F_X11_rightOf o h s μ)))) : V_X11_rightOf R 0 [(0, kR o), (1, kI h), (2, kI s)] μ := by
  obtain ⟨rfl, hb, hh, hset⟩ := hP
  have ok := hb.v
  have hp := hb.p
  have hpe := hb.2.1
  refine vc_X11_rightOf_0 ?_
  have bd : ∀ (g : Int → Int), (∀ a, 0 ≤ g a ∧ g a ≤ 12) → ∀ a : Int, 0 ≤ a → a ≤ μ 201 13 → 0 ≤ fold (fun m a => max m (vm μ 4 a * g a)) 0 a ∧ fold (fun m a => max m (vm μ 4 a * g a)) 0 a ≤ 1188 := by
    intro g hg a a0 a1
    refine fold_ind (P := fun _ m => 0 ≤ m ∧ m ≤ 1188) (by omega) (fun i m i0 i1 q => ?_) a0
    have hc := (ok.2.2.2.1 i i0 (by omega)).1
    have := mul_bd hc.1 hc.2 (hg i).1 (hg i).2
    omega
  have hin : ∀ a, 0 ≤ inV h s a ∧ inV h s a ≤ 12 := by
    intro a
    unfold inV
    by_cases hb : hasB s a = true
    · rw [if_pos hb]; omega
    · rw [if_neg hb]; omega
  refine up_ind (P := fun a => V_X11_rightOf R 8 [(0, kR 201), (1, kI h), (2, kI s), (3, kI (fold (fun m a => max m (vm μ 4 a * inV h s a)) 0 a)), (4, kI (fold (fun m a => max m (vm μ 4 a * (12 - inV h s a))) 0 a)), (5, kI a)] μ) (lo := 0) (hi := μ 201 13) ?_ ?_ 0 (by omega) (by omega)
  · intro a a0 a1 ih
    have b1 := bd (inV h s) hin a a0 (by omega)
    have b2 := bd (fun a => 12 - inV h s a) (fun a => by have := hin a; omega) a a0 (by omega)
    rw [fold_s a0, fold_s a0] at ih
    have hc := (ok.2.2.2.1 a a0 (by omega)).1
    have hi := hin a
    have m1 := mul_bd hc.1 hc.2 hi.1 hi.2
    have m2 := mul_bd (b := 12 - inV h s a) (B := 12) hc.1 hc.2 (by omega) (by omega)
    have et := b_tst (s := s) (a := a) hset.1 (by omega) a0 (by omega)
    have hP4 : P_X11_of 201 (10 + a) μ := ⟨rfl, hb.1, by omega, by omega⟩
    generalize fold (fun m a => max m (vm μ 4 a * inV h s a)) 0 a = X at ih b1 ⊢
    generalize fold (fun m a => max m (vm μ 4 a * (12 - inV h s a))) 0 a = Y at ih b2 ⊢
    refine vc_X11_rightOf_8 ?_
    rw [of_4 a0 (by omega), et]
    by_cases hb : hasB s a = true
    · have e : inV h s a = h := if_pos hb
      rw [e] at ih m1 m2
      rw [if_pos hb]
      refine ⟨rr (by omega), rr (by omega), fun c => absurd c (by omega), fun _ => ⟨rr (by omega), fun q => absurd rfl q, fun _ => ⟨hP4, hP4, rr (by omega), rr (by omega), fun c1 => ⟨rr (by omega), rr (by omega), fun c2 => ?_, fun c2 => ?_⟩, fun c1 => ⟨rr (by omega), rr (by omega), fun c2 => ?_, fun c2 => ?_⟩⟩⟩⟩
      · rw [max_put.1 c1, max_put.1 c2] at ih; exact ih
      · rw [max_put.1 c1, max_put.2 c2] at ih; exact ih
      · rw [max_put.2 c1, max_put.1 c2] at ih; exact ih
      · rw [max_put.2 c1, max_put.2 c2] at ih; exact ih
    · have e : inV h s a = 12 - h := if_neg hb
      rw [e] at ih m1 m2
      rw [if_neg hb]
      refine ⟨rr (by omega), rr (by omega), fun c => absurd c (by omega), fun _ => ⟨rr (by omega), fun _ => ⟨hP4, hP4, rr (by omega), rr (by omega), fun c1 => ⟨rr (by omega), rr (by omega), fun c2 => ?_, fun c2 => ?_⟩, fun c1 => ⟨rr (by omega), rr (by omega), fun c2 => ?_, fun c2 => ?_⟩⟩, fun q => absurd (show ¬ (0 : Int) = 1 by omega) q⟩⟩
      · rw [max_put.1 c1, max_put.1 c2] at ih; exact ih
      · rw [max_put.1 c1, max_put.2 c2] at ih; exact ih
      · rw [max_put.2 c1, max_put.1 c2] at ih; exact ih
      · rw [max_put.2 c1, max_put.2 c2] at ih; exact ih
  · refine vc_X11_rightOf_8 ⟨rr (by omega), rr (by omega), fun _ => ?_, fun c => absurd (Int.le_refl _) c⟩
    rw [hpe]
    exact hR
theorem ct_X11_rightOf : Ct mX11_rightOf 1 21 0 0 (nrmS S_X11_rightOf) := by
  refine ct_vm (own := RX11) (by decide +kernel) rfl ?_ ?_
  · intro as μ Q hS
    unfold S_X11_rightOf at hS
    split at hS
    · exact Nat.le_of_ble_eq_true rfl
    · exact hS.elim
  · intro as μ R hS
    unfold S_X11_rightOf at hS
    split at hS
    · exact body_X11_rightOf hS.1 hS.2
    · exact hS.elim
def P_X11_right (o n a k : Int) (μ : Mem) : Prop := o = 201 ∧ SOk (stM μ) ∧ r32 n ∧ r32 a ∧ r32 k
def Q_X11_right (_ n a k : Int) (μ μ' : Mem) (r : Int) : Prop := AskM μ μ' ∧ r = onT (stM μ).1 n (-1) (rightT a k)
def S_X11_right : S0t := fun as μ Q => match as with
  | [(2, x0), (0, x1), (0, x2), (0, x3)] => P_X11_right x0 x1 x2 x3 μ ∧ ∀ (μ' : Mem) (r : Int), Q_X11_right x0 x1 x2 x3 μ μ' r → Q μ' (some (kI r))
  | _ => False
theorem mono_X11_right : Mono S_X11_right := by
  intro as μ Q Q' h hS
  unfold S_X11_right at hS ⊢
  split at hS
  · exact ⟨hS.1, fun μ' r q => h _ _ (hS.2 _ _ q)⟩
  · exact hS.elim
def iX11_right : Inf := (kX11_right, fTX11, pTX11, cTX11, lTX11, sTX11, [(219, 0, 1, 11, S_X11_isTown), (162, 1, 3, 0, S_X11_isIn), (437, 0, 2, 11, S_X11_rightOf)])
theorem ok_X11_right : infOK iX11_right mX11_right RX11 2 49 := ⟨kkX11_right, fTX11_ok, pTX11_ok _, cTX11_ok, lTX11_ok, sTX11_ok, c_cons ⟨mX11_isTown, 1, 22, ct_X11_isTown, mmX11_isTown, vvX11_isTown, lkX11_219, ⟨by decide, by decide⟩, ⟨_, _, rfl⟩, by decide, mono_X11_isTown⟩ (c_cons ⟨mX11_isIn, 0, 0, ct_X11_isIn, mmX11_isIn, stX11_isIn, lkX11_162, ⟨by decide, by decide⟩, mono_X11_isIn⟩ (c_cons ⟨mX11_rightOf, 1, 21, ct_X11_rightOf, mmX11_rightOf, vvX11_rightOf, lkX11_437, ⟨by decide, by decide⟩, ⟨_, _, rfl⟩, by decide, mono_X11_rightOf⟩ (c_nil)))⟩
theorem mt_X11_right : mtOK [] RX11 2 49 := mt_nil
abbrev V_X11_right (R : Mem → Option AV → Prop) (pc : Nat) (lc : List (Nat × AV)) (μ : Mem) : Prop := VM mX11_right RX11 2 49 R pc lc [] μ
set_option maxRecDepth 20000 in
theorem vc_X11_right_0 {R : Mem → Option AV → Prop} {n a k : Int} {μ : Mem} (H : P_X11_isTown 201 n μ ∧ (∀ (μ1 : Mem) (rv2 : Int), Q_X11_isTown 201 n μ μ1 rv2 → r32 rv2 ∧ ((rv2 = 0) → R μ1 (some (kI (-1)))) ∧ (¬ (rv2 = 0) → P_X11_isIn a 0 12 μ1 ∧ r32 (F_X11_isIn a 0 12 μ1) ∧ (((F_X11_isIn a 0 12 μ1) = 0) → R μ1 (some (kI (-1)))) ∧ (¬ ((F_X11_isIn a 0 12 μ1) = 0) → P_X11_isIn k 0 ((bshl 1 (μ1 201 13)) - 1) μ1 ∧ r32 (F_X11_isIn k 0 ((bshl 1 (μ1 201 13)) - 1) μ1) ∧ (((F_X11_isIn k 0 ((bshl 1 (μ1 201 13)) - 1) μ1) = 0) → R μ1 (some (kI (-1)))) ∧ (¬ ((F_X11_isIn k 0 ((bshl 1 (μ1 201 13)) - 1) μ1) = 0) → P_X11_rightOf 201 a k μ1 ∧ R μ1 (some (kI (F_X11_rightOf 201 a k μ1)))))))) : V_X11_right R 0 [(0, kR 201), (1, kI n), (2, kI a), (3, kI k)] μ := by
  refine vm_step2 mt_X11_right ok_X11_right [] 1000 ?_
  show isC 201 11 ∧ P_X11_isTown 201 n μ ∧ (∀ (μ1 : Mem) (rv2 : Int), Q_X11_isTown 201 n μ μ1 rv2 → r32 rv2 ∧ ((rv2 = 0) → R μ1 (some (kI (-1)))) ∧ (¬ (rv2 = 0) → P_X11_isIn a 0 12 μ1 ∧ r32 (F_X11_isIn a 0 12 μ1) ∧ (((F_X11_isIn a 0 12 μ1) = 0) → R μ1 (some (kI (-1)))) ∧ (¬ ((F_X11_isIn a 0 12 μ1) = 0) → isC 201 11 ∧ P_X11_isIn k 0 ((bshl 1 (μ1 201 13)) - 1) μ1 ∧ r32 (F_X11_isIn k 0 ((bshl 1 (μ1 201 13)) - 1) μ1) ∧ (((F_X11_isIn k 0 ((bshl 1 (μ1 201 13)) - 1) μ1) = 0) → R μ1 (some (kI (-1)))) ∧ (¬ ((F_X11_isIn k 0 ((bshl 1 (μ1 201 13)) - 1) μ1) = 0) → isC 201 11 ∧ P_X11_rightOf 201 a k μ1 ∧ R μ1 (some (kI (F_X11_rightOf 201 a k μ1)))))))
  exact ⟨c_201, H.1, fun μ1 rv2 hq3 => ⟨(H.2 μ1 rv2 hq3).1, fun hc6 => ((H.2 μ1 rv2 hq3).2.1 hc6), fun hc6 => ⟨((H.2 μ1 rv2 hq3).2.2 hc6).1, ⟨((H.2 μ1 rv2 hq3).2.2 hc6).2.1, fun hc5 => (((H.2 μ1 rv2 hq3).2.2 hc6).2.2.1 hc5), fun hc5 => ⟨c_201, ⟨(((H.2 μ1 rv2 hq3).2.2 hc6).2.2.2 hc5).1, ⟨(((H.2 μ1 rv2 hq3).2.2 hc6).2.2.2 hc5).2.1, fun hc4 => ((((H.2 μ1 rv2 hq3).2.2 hc6).2.2.2 hc5).2.2.1 hc4), fun hc4 => ⟨c_201, ((((H.2 μ1 rv2 hq3).2.2 hc6).2.2.2 hc5).2.2.2 hc4).1, ((((H.2 μ1 rv2 hq3).2.2 hc6).2.2.2 hc5).2.2.2 hc4).2⟩⟩⟩⟩⟩⟩⟩⟩
theorem body_X11_right {o n a k : Int} {μ : Mem} {R : Mem → Option AV → Prop} (h : P_X11_right o n a k μ) (hR : ∀ (μ' : Mem) (r : Int), Q_X11_right o n a k μ μ' r → R μ' (some (kI r))) : V_X11_right R 0 [(0, kR o), (1, kI n), (2, kI a), (3, kI k)] μ := by
  obtain ⟨rfl, hs, r_n, r_a, r_k⟩ := h
  refine vc_X11_right_0 ⟨⟨rfl, hs, r_n⟩, fun m rv q => ?_⟩
  obtain ⟨q1, q2, q3, q4⟩ := q
  have ask : AskM μ m := fun z hz => q1 z (by omega)
  by_cases c : 0 ≤ n ∧ n < μ 202 0
  · obtain ⟨rfl, hb, hv, h12⟩ := q4 c
    have ok := hb.v
    have hp := hb.p
    have hpe := hb.2.1
    have fin : ∀ (m' : Mem) (x : Int), AskM m m' → x = (rightT a k) (vm m) → R m' (some (kI x)) := fun m' x ha hx => hR m' x ⟨ask.trans ha, by rw [hx, onM_yes c, ← hv]⟩
    have a0 := AskM_0 m
    refine ⟨rr (by omega), fun q => absurd q (by omega), fun _ => ?_⟩
    have ir := isIn_r (x := a) (lo := 0) (hi := 12) (μ := m)
    have ir2 := isIn_r (x := k) (lo := 0) (hi := bshl 1 (m 201 13) - 1) (μ := m)
    have es := b_shl (k := m 201 13) (by omega) (by omega)
    have p2 : (2 ^ (m 201 13).toNat : Nat) ≤ 2 ^ 8 := Nat.pow_le_pow_right (by omega) (by omega)
    have p2' : 0 < (2 ^ (m 201 13).toNat : Nat) := Nat.two_pow_pos _
    unfold rightT at fin
    rw [← hpe] at fin
    refine ⟨⟨r_a, rr (by omega), rr (by omega)⟩, rr (by omega), fun d => fin m _ a0 (if_neg (fun q => isIn_1.mpr q.1 d)).symm, fun d => ⟨⟨r_k, rr (by omega), by rw [es]; exact rr (by omega)⟩, rr (by omega), fun e => fin m _ a0 (if_neg (fun q => isIn_1.mpr ⟨q.2.1, by rw [es]; omega⟩ e)).symm, fun e => ?_⟩⟩
    have de := isIn_1.mp e
    rw [es] at de
    exact ⟨⟨rfl, hb, isIn_1.mp d, by omega⟩, fin m _ a0 (if_pos ⟨isIn_1.mp d, de.1, by omega⟩).symm⟩
  · have e := q3 c
    subst e
    exact ⟨rr (by omega), fun _ => hR m _ ⟨ask, (onM_no c).symm⟩, fun q => absurd rfl q⟩
theorem ct_X11_right : Ct mX11_right 2 49 0 0 (nrmS S_X11_right) := by
  refine ct_vm (own := RX11) (by decide +kernel) rfl ?_ ?_
  · intro as μ Q hS
    unfold S_X11_right at hS
    split at hS
    · exact Nat.le_of_ble_eq_true rfl
    · exact hS.elim
  · intro as μ R hS
    unfold S_X11_right at hS
    split at hS
    · exact body_X11_right hS.1 hS.2
    · exact hS.elim
def P_X11_box (o n a : Int) (μ : Mem) : Prop := o = 201 ∧ SOk (stM μ) ∧ r32 n ∧ r32 a
def Q_X11_box (_ n a : Int) (μ μ' : Mem) (r : Int) : Prop := AskM μ μ' ∧ r = onT (stM μ).1 n (-1) (boxT a)
def S_X11_box : S0t := fun as μ Q => match as with
  | [(2, x0), (0, x1), (0, x2)] => P_X11_box x0 x1 x2 μ ∧ ∀ (μ' : Mem) (r : Int), Q_X11_box x0 x1 x2 μ μ' r → Q μ' (some (kI r))
  | _ => False
theorem mono_X11_box : Mono S_X11_box := by
  intro as μ Q Q' h hS
  unfold S_X11_box at hS ⊢
  split at hS
  · exact ⟨hS.1, fun μ' r q => h _ _ (hS.2 _ _ q)⟩
  · exact hS.elim
def iX11_box : Inf := (kX11_box, fTX11, pTX11, cTX11, lTX11, sTX11, [(219, 0, 1, 11, S_X11_isTown), (162, 1, 3, 0, S_X11_isIn), (437, 0, 2, 11, S_X11_rightOf)])
theorem ok_X11_box : infOK iX11_box mX11_box RX11 2 49 := ⟨kkX11_box, fTX11_ok, pTX11_ok _, cTX11_ok, lTX11_ok, sTX11_ok, c_cons ⟨mX11_isTown, 1, 22, ct_X11_isTown, mmX11_isTown, vvX11_isTown, lkX11_219, ⟨by decide, by decide⟩, ⟨_, _, rfl⟩, by decide, mono_X11_isTown⟩ (c_cons ⟨mX11_isIn, 0, 0, ct_X11_isIn, mmX11_isIn, stX11_isIn, lkX11_162, ⟨by decide, by decide⟩, mono_X11_isIn⟩ (c_cons ⟨mX11_rightOf, 1, 21, ct_X11_rightOf, mmX11_rightOf, vvX11_rightOf, lkX11_437, ⟨by decide, by decide⟩, ⟨_, _, rfl⟩, by decide, mono_X11_rightOf⟩ (c_nil)))⟩
theorem mt_X11_box : mtOK [] RX11 2 49 := mt_nil
abbrev V_X11_box (R : Mem → Option AV → Prop) (pc : Nat) (lc : List (Nat × AV)) (μ : Mem) : Prop := VM mX11_box RX11 2 49 R pc lc [] μ
set_option maxRecDepth 20000 in
theorem vc_X11_box_0 {R : Mem → Option AV → Prop} {n a : Int} {μ : Mem} (H : P_X11_isTown 201 n μ ∧ (∀ (μ1 : Mem) (rv2 : Int), Q_X11_isTown 201 n μ μ1 rv2 → r32 rv2 ∧ ((rv2 = 0) → R μ1 (some (kI (-1)))) ∧ (¬ (rv2 = 0) → P_X11_isIn a 0 12 μ1 ∧ r32 (F_X11_isIn a 0 12 μ1) ∧ ((¬ (F_X11_isIn a 0 12 μ1) = 0) → V_X11_box R 25 [(0, kR 201), (2, kI a), (3, kI 0), (4, kI 1)] μ1) ∧ (¬ (¬ (F_X11_isIn a 0 12 μ1) = 0) → R μ1 (some (kI (-1))))))) : V_X11_box R 0 [(0, kR 201), (1, kI n), (2, kI a)] μ := by
  refine vm_step2 mt_X11_box ok_X11_box [(25, [0, 2, 3, 4])] 1000 ?_
  show isC 201 11 ∧ P_X11_isTown 201 n μ ∧ (∀ (μ1 : Mem) (rv2 : Int), Q_X11_isTown 201 n μ μ1 rv2 → r32 rv2 ∧ ((rv2 = 0) → R μ1 (some (kI (-1)))) ∧ (¬ (rv2 = 0) → P_X11_isIn a 0 12 μ1 ∧ r32 (F_X11_isIn a 0 12 μ1) ∧ ((¬ (F_X11_isIn a 0 12 μ1) = 0) → V_X11_box R 25 [(0, kR 201), (2, kI a), (3, kI 0), (4, kI 1)] μ1) ∧ (¬ (¬ (F_X11_isIn a 0 12 μ1) = 0) → R μ1 (some (kI (-1))))))
  exact ⟨c_201, H.1, fun μ1 rv2 hq3 => ⟨(H.2 μ1 rv2 hq3).1, fun hc5 => ((H.2 μ1 rv2 hq3).2.1 hc5), fun hc5 => ⟨((H.2 μ1 rv2 hq3).2.2 hc5).1, ⟨((H.2 μ1 rv2 hq3).2.2 hc5).2.1, fun hc4 => (((H.2 μ1 rv2 hq3).2.2 hc5).2.2.1 hc4), fun hc4 => (((H.2 μ1 rv2 hq3).2.2 hc5).2.2.2 hc4)⟩⟩⟩⟩
set_option maxRecDepth 20000 in
theorem vc_X11_box_25 {R : Mem → Option AV → Prop} {a best s : Int} {μ : Mem} (H : r32 s ∧ r32 (bshl 1 (μ 201 13)) ∧ (((bshl 1 (μ 201 13)) ≤ s) → R μ (some (kI best))) ∧ (¬ ((bshl 1 (μ 201 13)) ≤ s) → P_X11_rightOf 201 a s μ ∧ P_X11_rightOf 201 a best μ ∧ r32 (F_X11_rightOf 201 a s μ) ∧ r32 (F_X11_rightOf 201 a best μ) ∧ (((F_X11_rightOf 201 a s μ) ≤ (F_X11_rightOf 201 a best μ)) → V_X11_box R 25 [(0, kR 201), (2, kI a), (3, kI best), (4, kI (s + 1))] μ) ∧ (¬ ((F_X11_rightOf 201 a s μ) ≤ (F_X11_rightOf 201 a best μ)) → V_X11_box R 25 [(0, kR 201), (2, kI a), (3, kI s), (4, kI (s + 1))] μ))) : V_X11_box R 25 [(0, kR 201), (2, kI a), (3, kI best), (4, kI s)] μ := by
  refine vm_step2 mt_X11_box ok_X11_box [(25, [0, 2, 3, 4])] 1000 ?_
  show isC 201 11 ∧ (r32 s ∧ r32 (bshl 1 (μ 201 13))) ∧ (((bshl 1 (μ 201 13)) ≤ s) → R μ (some (kI best))) ∧ (¬ ((bshl 1 (μ 201 13)) ≤ s) → isC 201 11 ∧ P_X11_rightOf 201 a s μ ∧ isC 201 11 ∧ P_X11_rightOf 201 a best μ ∧ (r32 (F_X11_rightOf 201 a s μ) ∧ r32 (F_X11_rightOf 201 a best μ)) ∧ (((F_X11_rightOf 201 a s μ) ≤ (F_X11_rightOf 201 a best μ)) → V_X11_box R 25 [(0, kR 201), (2, kI a), (3, kI best), (4, kI (s + 1))] μ) ∧ (¬ ((F_X11_rightOf 201 a s μ) ≤ (F_X11_rightOf 201 a best μ)) → V_X11_box R 25 [(0, kR 201), (2, kI a), (3, kI s), (4, kI (s + 1))] μ))
  exact ⟨c_201, ⟨⟨H.1, H.2.1⟩, fun hc7 => (H.2.2.1 hc7), fun hc7 => ⟨c_201, (H.2.2.2 hc7).1, ⟨c_201, (H.2.2.2 hc7).2.1, ⟨⟨(H.2.2.2 hc7).2.2.1, (H.2.2.2 hc7).2.2.2.1⟩, fun hc6 => ((H.2.2.2 hc7).2.2.2.2.1 hc6), fun hc6 => ((H.2.2.2 hc7).2.2.2.2.2 hc6)⟩⟩⟩⟩⟩
theorem right_ok {v : TV} (ok : TVok v) {h : Int} (hh : 0 ≤ h ∧ h ≤ 12) (s : Int) : 0 ≤ rightV v h s ∧ rightV v h s ≤ 2376 := by
  have hp := ok.1
  have bd : ∀ (g : Int → Int), (∀ a, 0 ≤ g a ∧ g a ≤ 12) → 0 ≤ fold (fun m a => max m (v 4 a * g a)) 0 (v 0 0) ∧ fold (fun m a => max m (v 4 a * g a)) 0 (v 0 0) ≤ 1188 := by
    intro g hg
    refine fold_ind (P := fun _ m => 0 ≤ m ∧ m ≤ 1188) (by omega) (fun i m i0 i1 q => ?_) (by omega)
    have hc := (ok.2.2.2.1 i i0 (by omega)).1
    have := mul_bd hc.1 hc.2 (hg i).1 (hg i).2
    omega
  have hin : ∀ a, 0 ≤ inV h s a ∧ inV h s a ≤ 12 := by
    intro a
    unfold inV
    split <;> omega
  have b1 := bd (inV h s) hin
  have b2 := bd (fun a => 12 - inV h s a) (fun a => by have := hin a; omega)
  unfold rightV
  omega
theorem body_X11_box {o n a : Int} {μ : Mem} {R : Mem → Option AV → Prop} (h : P_X11_box o n a μ) (hR : ∀ (μ' : Mem) (r : Int), Q_X11_box o n a μ μ' r → R μ' (some (kI r))) : V_X11_box R 0 [(0, kR o), (1, kI n), (2, kI a)] μ := by
  obtain ⟨rfl, hs, r_n, r_a⟩ := h
  refine vc_X11_box_0 ⟨⟨rfl, hs, r_n⟩, fun m rv q => ?_⟩
  obtain ⟨q1, q2, q3, q4⟩ := q
  have ask : AskM μ m := fun z hz => q1 z (by omega)
  by_cases c : 0 ≤ n ∧ n < μ 202 0
  · obtain ⟨rfl, hb, hv, h12⟩ := q4 c
    have ok := hb.v
    have hp := hb.p
    have hpe := hb.2.1
    have fin : ∀ (m' : Mem) (x : Int), AskM m m' → x = (boxT a) (vm m) → R m' (some (kI x)) := fun m' x ha hx => hR m' x ⟨ask.trans ha, by rw [hx, onM_yes c, ← hv]⟩
    have a0 := AskM_0 m
    refine ⟨rr (by omega), fun q => absurd q (by omega), fun _ => ?_⟩
    have ir := isIn_r (x := a) (lo := 0) (hi := 12) (μ := m)
    have es := b_shl (k := m 201 13) (by omega) (by omega)
    have p2 : (2 ^ (m 201 13).toNat : Nat) ≤ 2 ^ 8 := Nat.pow_le_pow_right (by omega) (by omega)
    have p2' : 0 < (2 ^ (m 201 13).toNat : Nat) := Nat.two_pow_pos _
    unfold boxT at fin
    rw [← hpe] at fin
    refine ⟨⟨r_a, rr (by omega), rr (by omega)⟩, rr (by omega), fun d => ?_, fun d => fin m _ a0 (if_neg (fun q => d (isIn_1.mpr q))).symm⟩
    have da := isIn_1.mp d
    rw [if_pos da] at fin
    have key := up_ind (P := fun i => V_X11_box R 25 [(0, kR 201), (2, kI a), (3, kI (maxAt (rightV (vm m) a) i)), (4, kI (i + 1))] m) (lo := 0) (hi := ((2 ^ (m 201 13).toNat : Nat) : Int) - 1) ?_ ?_
    · exact key 0 (by omega) (by omega)
    · intro i i0 i1 ih
      have hm := maxAt_bd (f := rightV (vm m) a) i0
      have b1 := right_ok ok da (i + 1)
      have b2 := right_ok ok da (maxAt (rightV (vm m) a) i)
      have est : maxAt (rightV (vm m) a) (i + 1) = if rightV (vm m) a (maxAt (rightV (vm m) a) i) < rightV (vm m) a (i + 1) then i + 1 else maxAt (rightV (vm m) a) i := fold_s i0
      refine vc_X11_box_25 ?_
      rw [es]
      unfold F_X11_rightOf
      refine ⟨rr (by omega), rr (by omega), fun c => absurd c (by omega), fun _ => ⟨⟨rfl, hb, da, by omega⟩, ⟨rfl, hb, da, by omega⟩, rr (by omega), rr (by omega), fun c => ?_, fun c => ?_⟩⟩
      · rw [est, if_neg (by omega)] at ih; exact ih
      · rw [est, if_pos (by omega)] at ih; exact ih
    · refine vc_X11_box_25 ?_
      rw [es]
      exact ⟨rr (by omega), rr (by omega), fun _ => fin m _ a0 rfl, fun c => absurd (by omega) c⟩
  · have e := q3 c
    subst e
    exact ⟨rr (by omega), fun _ => hR m _ ⟨ask, (onM_no c).symm⟩, fun q => absurd rfl q⟩
theorem ct_X11_box : Ct mX11_box 2 49 0 0 (nrmS S_X11_box) := by
  refine ct_vm (own := RX11) (by decide +kernel) rfl ?_ ?_
  · intro as μ Q hS
    unfold S_X11_box at hS
    split at hS
    · exact Nat.le_of_ble_eq_true rfl
    · exact hS.elim
  · intro as μ R hS
    unfold S_X11_box at hS
    split at hS
    · exact body_X11_box hS.1 hS.2
    · exact hS.elim
