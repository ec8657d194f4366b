/-! the model: the tape, the images -/
theorem stM_head {μ m : Mem} (h0 : m 202 0 = μ 202 0) (hf : ∀ j : Int, 510 ≤ j → m 202 j = μ 202 j) (h3 : m 203 = μ 203) : stM m = ((clip (m 202 2) (fun j => m 202 (10 + j)), clip 9 (fun k => m 202 (nmM k)), (stM μ).1.2.2), (stM μ).2) := by
  refine Prod.ext (Prod.ext ?_ (Prod.ext ?_ ?_)) (imgs_up (fun j j0 => hf j (by omega)) h3)
  · show clip (m 202 2) (fun j => m 202 (0 + 10 + j)) = clip (m 202 2) (fun j => m 202 (10 + j))
    rfl
  · show clip 9 (fun k => m 202 (0 + nmM k)) = clip 9 (fun k => m 202 (nmM k))
    exact clip_ext fun k _ _ => by rw [Int.zero_add]
  · funext i
    show (if 0 ≤ i ∧ i < m 202 0 then tmF (m 202) (0 + 510 + 260 * i) else tv0) = if 0 ≤ i ∧ i < μ 202 0 then tmF (μ 202) (0 + 510 + 260 * i) else tv0
    rw [h0]
    by_cases c : 0 ≤ i ∧ i < μ 202 0
    · rw [if_pos c, if_pos c]
      exact tmF_up fun j j0 => hf j (by omega)
    · rw [if_neg c, if_neg c]
theorem nm_0 : nmM 0 = 2 := rfl
theorem nm_ne {k : Int} (h0 : 0 ≤ k) (h1 : k < 9) (h : k ≠ 0) : nmM k ≠ 2 ∧ 0 ≤ nmM k ∧ nmM k < 9 := by
  unfold nmM
  split
  · omega
  · split <;> omega
theorem tm_shift {f g : Int → Int} {b p : Int} (ok : TVok (tmF f b)) (h : ∀ j : Int, 0 ≤ j → j < 260 → g (p + j) = f (b + j)) : tmF g p = tmF f b := by
  have e : tmF g p = tmF (fun j => g (p - b + j)) b := by
    have sh : ∀ x : Int, p - b + (b + x) = p + x := fun x => by omega
    funext k
    match k with
    | 0 => funext _; show g p = g (p - b + b); rw [show p - b + b = p by omega]
    | 1 => funext _; show g (p + 1) = g (p - b + (b + 1)); rw [sh]
    | 2 => funext _; show g (p + 2) = g (p - b + (b + 2)); rw [sh]
    | 3 => funext _; show g (p + 3) = g (p - b + (b + 3)); rw [sh]
    | 4 => exact clip_ext fun j _ _ => by show g (p + 10 + j) = g (p - b + (b + 10 + j)); rw [show p - b + (b + 10 + j) = p + 10 + j by omega]
    | 5 => exact clip_ext fun j _ _ => by show g (p + 20 + j) = g (p - b + (b + 20 + j)); rw [show p - b + (b + 20 + j) = p + 20 + j by omega]
    | 6 => exact clip_ext fun j _ _ => by show g (p + 30 + j) = g (p - b + (b + 30 + j)); rw [show p - b + (b + 30 + j) = p + 30 + j by omega]
    | 7 => exact clip_ext fun j _ _ => by show g (p + 40 + j) = g (p - b + (b + 40 + j)); rw [show p - b + (b + 40 + j) = p + 40 + j by omega]
    | 8 => funext _; show g (p + 4) = g (p - b + (b + 4)); rw [sh]
    | 9 => show clip (g (p + 4)) (fun w => g (p + 104 + 18 * w)) = clip (g (p - b + (b + 4))) (fun w => g (p - b + (b + 104 + 18 * w))); rw [sh]; exact clip_ext fun j _ _ => by rw [show p - b + (b + 104 + 18 * j) = p + 104 + 18 * j by omega]
    | 10 => show clip (g (p + 4)) (fun w => g (p + 105 + 18 * w)) = clip (g (p - b + (b + 4))) (fun w => g (p - b + (b + 105 + 18 * w))); rw [sh]; exact clip_ext fun j _ _ => by rw [show p - b + (b + 105 + 18 * j) = p + 105 + 18 * j by omega]
    | 11 =>
      funext j
      show (if 0 ≤ j ∧ j / 16 < g (p + 4) ∧ j % 16 < g (p + 104 + 18 * (j / 16)) then g (p + 106 + 18 * (j / 16) + j % 16) else 0) = if 0 ≤ j ∧ j / 16 < g (p - b + (b + 4)) ∧ j % 16 < g (p - b + (b + 104 + 18 * (j / 16))) then g (p - b + (b + 106 + 18 * (j / 16) + j % 16)) else 0
      rw [sh, show p - b + (b + 104 + 18 * (j / 16)) = p + 104 + 18 * (j / 16) by omega, show p - b + (b + 106 + 18 * (j / 16) + j % 16) = p + 106 + 18 * (j / 16) + j % 16 by omega]
    | 12 => funext _; show g (p + 250) = g (p - b + (b + 250)); rw [sh]
    | n + 13 => show clip (g (p + 250)) (fun i => g (p + 251 + i)) = clip (g (p - b + (b + 250))) (fun i => g (p - b + (b + 251 + i))); rw [sh]; exact clip_ext fun j _ _ => by rw [show p - b + (b + 251 + j) = p + 251 + j by omega]
  rw [e]
  exact tmF_frame ok fun j j0 j1 => by
    show g (p - b + j) = f j
    have := h (j - b) (by omega) (by omega)
    rwa [show p + (j - b) = p - b + j by omega, show b + (j - b) = j by omega] at this
theorem wm_frame {f g : Int → Int} {q p : Int} (ok : WOk (wmF f q)) (h : ∀ j : Int, 0 ≤ j → j < 1290 → g (p + j) = f (q + j)) : wmF g p = wmF f q := by
  have hl : 0 ≤ f (q + 2) ∧ f (q + 2) ≤ 500 := ok.1
  have ht : 0 ≤ f (q + 0) ∧ f (q + 0) ≤ 3 := ok.2.1
  have hv := ok.2.2.2.2.2
  have e0 : f (q + 0) = f q := by rw [Int.add_zero]
  have h0 : g p = f q := by have := h 0 (by omega) (by omega); rwa [Int.add_zero, Int.add_zero] at this
  unfold wmF
  rw [h 2 (by omega) (by omega), h0]
  refine Prod.ext ?_ (Prod.ext ?_ ?_)
  · show clip (f (q + 2)) (fun j => g (p + 10 + j)) = clip (f (q + 2)) (fun j => f (q + 10 + j))
    exact clip_ext fun j j0 j1 => by rw [show p + 10 + j = p + (10 + j) by omega, show q + 10 + j = q + (10 + j) by omega]; exact h _ (by omega) (by omega)
  · show clip 9 (fun k => g (p + nmM k)) = clip 9 (fun k => f (q + nmM k))
    refine clip_ext fun k k0 k1 => h _ ?_ ?_
    · unfold nmM; split <;> (try split) <;> omega
    · unfold nmM; split <;> (try split) <;> omega
  · funext i
    show (if 0 ≤ i ∧ i < f q then tmF g (p + 510 + 260 * i) else tv0) = if 0 ≤ i ∧ i < f q then tmF f (q + 510 + 260 * i) else tv0
    by_cases c : 0 ≤ i ∧ i < f q
    · rw [if_pos c, if_pos c]
      have vok : TVok (if 0 ≤ i ∧ i < f q then tmF f (q + 510 + 260 * i) else tv0) := (hv i c.1 (by show i < f (q + 0); omega)).1
      rw [if_pos c] at vok
      exact tm_shift vok fun j j0 j1 => by rw [show p + 510 + 260 * i + j = p + (510 + 260 * i + j) by omega, show q + 510 + 260 * i + j = q + (510 + 260 * i + j) by omega]; exact h _ (by omega) (by omega)
    · rw [if_neg c, if_neg c]
def P_X11_end (o n : Int) (μ : Mem) : Prop := o = 201 ∧ SOk (stM μ) ∧ r32 n
def Q_X11_end (_ n : Int) (μ μ' : Mem) (r : Int) : Prop := ChgM (endS (stM μ) n) μ μ' r
def S_X11_end : S0t := fun as μ Q => match as with
  | [(2, x0), (0, x1)] => P_X11_end x0 x1 μ ∧ ∀ (μ' : Mem) (r : Int), Q_X11_end x0 x1 μ μ' r → Q μ' (some (kI r))
  | _ => False
theorem mono_X11_end : Mono S_X11_end := by
  intro as μ Q Q' h hS
  unfold S_X11_end at hS ⊢
  split at hS
  · exact ⟨hS.1, fun μ' r q => h _ _ (hS.2 _ _ q)⟩
  · exact hS.elim
def iX11_end : Inf := (kX11_end, fTX11, pTX11, cTX11, lTX11, sTX11, [])
theorem ok_X11_end : infOK iX11_end mX11_end RX11 0 0 := ⟨kkX11_end, fTX11_ok, pTX11_ok _, cTX11_ok, lTX11_ok, sTX11_ok, c_nil⟩
theorem mt_X11_end : mtOK [] RX11 0 0 := mt_nil
abbrev V_X11_end (R : Mem → Option AV → Prop) (pc : Nat) (lc : List (Nat × AV)) (μ : Mem) : Prop := VM mX11_end RX11 0 0 R pc lc [] μ
set_option maxRecDepth 20000 in
theorem vc_X11_end_0 {R : Mem → Option AV → Prop} {n : Int} {μ : Mem} (H : r32 n ∧ ((n < 0) → R μ (some (kI (-1)))) ∧ (¬ (n < 0) → r32 n ∧ r32 (μ 202 2) ∧ ((n ≤ (μ 202 2)) → V_X11_end R 23 [(1, kI n)] (updm μ 202 2 n)) ∧ (¬ (n ≤ (μ 202 2)) → R μ (some (kI (-1)))))) : V_X11_end R 0 [(0, kR 201), (1, kI n)] μ := by
  refine vm_step2 mt_X11_end ok_X11_end [(23, [1])] 1000 ?_
  show r32 n ∧ ((n < 0) → R μ (some (kI (-1)))) ∧ (¬ (n < 0) → isC 201 11 ∧ inA 202 0 (2 : Int) ∧ (r32 n ∧ r32 (μ 202 2)) ∧ ((n ≤ (μ 202 2)) → isC 201 11 ∧ inA 202 0 (2 : Int) ∧ V_X11_end R 23 [(1, kI n)] (updm μ 202 2 n)) ∧ (¬ (n ≤ (μ 202 2)) → R μ (some (kI (-1)))))
  exact ⟨H.1, fun hc2 => (H.2.1 hc2), fun hc2 => ⟨c_201, ⟨isArr.in a_202 (by omega) (by omega), ⟨⟨(H.2.2 hc2).1, (H.2.2 hc2).2.1⟩, fun hc1 => ⟨c_201, ⟨isArr.in a_202 (by omega) (by omega), ((H.2.2 hc2).2.2.1 hc1)⟩⟩, fun hc1 => ((H.2.2 hc2).2.2.2 hc1)⟩⟩⟩⟩
set_option maxRecDepth 20000 in
theorem vc_X11_end_23 {R : Mem → Option AV → Prop} {n : Int} {μ : Mem} (H : R μ (some (kI n))) : V_X11_end R 23 [(1, kI n)] μ := by
  refine vm_step2 mt_X11_end ok_X11_end [(23, [1])] 1000 ?_
  show R μ (some (kI n))
  exact H
theorem body_X11_end {o n : Int} {μ : Mem} {R : Mem → Option AV → Prop} (h : P_X11_end o n μ) (hR : ∀ (μ' : Mem) (r : Int), Q_X11_end o n μ μ' r → R μ' (some (kI r))) : V_X11_end R 0 [(0, kR o), (1, kI n)] μ := by
  obtain ⟨rfl, hs, r_n⟩ := h
  have hl := hs.1.1
  rw [mn_0] at hl
  have no : ¬ (0 ≤ n ∧ n ≤ μ 202 2) → Q_X11_end 201 n μ μ (-1) := fun q => by
    unfold Q_X11_end endS
    rw [mn_0, if_neg q]
    exact ⟨rfl, rfl, fun _ _ => rfl⟩
  refine vc_X11_end_0 ⟨r_n, fun c1 => hR μ _ (no (by omega)), fun c1 => ⟨r_n, rr (by omega), fun c2 => vc_X11_end_23 ?_, fun c2 => hR μ _ (no (by omega))⟩⟩
  obtain ⟨m, em⟩ : ∃ m, m = updm μ 202 2 n := ⟨_, rfl⟩
  rw [← em]
  have fo : ∀ z : Int, z ≠ 202 → m z = μ z := fun z hz => by rw [em, ru_ne hz]
  have fk : ∀ k : Int, k ≠ 2 → m 202 k = μ 202 k := fun k hk => by rw [em, ru_eq, r1_ne hk]
  have f2 : m 202 2 = n := by rw [em, ru_eq, r1_eq]
  refine hR m n ?_
  unfold Q_X11_end endS
  rw [mn_0, if_pos ⟨by omega, c2⟩]
  refine ⟨?_, rfl, fun z hz => fo z (by omega)⟩
  rw [stM_head (fk 0 (by omega)) (fun j j0 => fk j (by omega)) (fo 203 (by omega)), f2]
  refine Prod.ext (Prod.ext ?_ (Prod.ext ?_ rfl)) rfl
  · funext j
    show clip n (fun j => m 202 (10 + j)) j = clip n (clip (μ 202 2) (fun j => μ 202 (0 + 10 + j))) j
    unfold clip
    by_cases q : 0 ≤ j ∧ j < n
    · rw [if_pos q, if_pos q, if_pos (by omega)]
      show m 202 (10 + j) = μ 202 (10 + j)
      exact fk _ (by omega)
    · rw [if_neg q, if_neg q]
  · funext k
    show clip 9 (fun k => m 202 (nmM k)) k = upd1 (clip 9 (fun k => μ 202 (0 + nmM k))) 0 n k
    by_cases e : k = 0
    · rw [e, r1_eq, clip_in (by omega) (by omega), nm_0, f2]
    · rw [r1_ne e]
      unfold clip
      by_cases q : 0 ≤ k ∧ k < 9
      · rw [if_pos q, if_pos q]
        show m 202 (nmM k) = μ 202 (0 + nmM k)
        rw [fk _ (nm_ne q.1 q.2 e).1, Int.zero_add]
      · rw [if_neg q, if_neg q]
theorem ct_X11_end : Ct mX11_end 0 0 0 0 (nrmS S_X11_end) := by
  refine ct_vm (own := RX11) (by decide +kernel) rfl ?_ ?_
  · intro as μ Q hS
    unfold S_X11_end at hS
    split at hS
    · exact Nat.le_of_ble_eq_true rfl
    · exact hS.elim
  · intro as μ R hS
    unfold S_X11_end at hS
    split at hS
    · exact body_X11_end hS.1 hS.2
    · exact hS.elim
theorem b_255 {x : Int} : band x 255 = x % 256 := by
  unfold band
  have e1 : (Int32.ofInt 255).toBitVec.toNat = 2 ^ 8 - 1 := by decide
  have e : (Int32.ofInt x &&& Int32.ofInt 255).toBitVec.toNat = (Int32.ofInt x).toBitVec.toNat % 256 := by
    rw [Int32.toBitVec_and, BitVec.toNat_and, e1, Nat.and_two_pow_sub_one_eq_mod]
  rw [bv_int (by rw [e]; omega), e]
  have e2 : (Int32.ofInt x).toBitVec = BitVec.ofInt 32 x := rfl
  rw [e2, BitVec.toNat_ofInt]
  have : ((2 ^ 32 : Nat) : Int) = 4294967296 := rfl
  rw [this]
  omega
theorem byteV_mod {k s : Int} : byteV k s % 256 = bshr k s % 256 := by
  unfold byteV
  rw [Int.bmod_def]
  omega
/-- the byte t of five numbers -/
def wAt (a b c d e t : Int) : Int := if t < 4 then a else if t < 8 then b else if t < 12 then c else if t < 16 then d else e
def btAt (a b c d e t : Int) : Int := bshr (wAt a b c d e t) (24 - 8 * (t % 4)) % 256
theorem appS_len {s : STt} {k : Int} : (appS s k).1.2.1 = upd1 s.1.2.1 0 (s.1.2.1 0 + 4) := rfl
theorem appS_tape {s : STt} {k j : Int} : (appS s k).1.1 j = if s.1.2.1 0 ≤ j ∧ j < s.1.2.1 0 + 4 then bshr k (24 - 8 * (j - s.1.2.1 0)) % 256 else s.1.1 j := by
  show upd1 (upd1 (upd1 (upd1 s.1.1 (s.1.2.1 0) (byteV k 24 % 256)) (s.1.2.1 0 + 1) (byteV k 16 % 256)) (s.1.2.1 0 + 2) (byteV k 8 % 256)) (s.1.2.1 0 + 3) (byteV k 0 % 256) j = _
  rw [byteV_mod, byteV_mod, byteV_mod, byteV_mod]
  generalize s.1.2.1 0 = L
  by_cases c3 : j = L + 3
  · rw [c3, r1_eq, if_pos (by omega), show 24 - 8 * (L + 3 - L) = 0 by omega]
  rw [r1_ne c3]
  by_cases c2 : j = L + 2
  · rw [c2, r1_eq, if_pos (by omega), show 24 - 8 * (L + 2 - L) = 8 by omega]
  rw [r1_ne c2]
  by_cases c1 : j = L + 1
  · rw [c1, r1_eq, if_pos (by omega), show 24 - 8 * (L + 1 - L) = 16 by omega]
  rw [r1_ne c1]
  by_cases c0 : j = L
  · rw [c0, r1_eq, if_pos (by omega), show 24 - 8 * (L - L) = 24 by omega]
  rw [r1_ne c0, if_neg (by omega)]
theorem app5 {s : STt} {a b c d e j L : Int} (h : s.1.2.1 0 = L) : (appS (appS (appS (appS (appS s a) b) c) d) e).1.1 j = if L ≤ j ∧ j < L + 20 then btAt a b c d e (j - L) else s.1.1 j := by
  have l1 : (appS s a).1.2.1 0 = L + 4 := by rw [appS_len, r1_eq, h]
  have l2 : (appS (appS s a) b).1.2.1 0 = L + 8 := by rw [appS_len, r1_eq, l1]; omega
  have l3 : (appS (appS (appS s a) b) c).1.2.1 0 = L + 12 := by rw [appS_len, r1_eq, l2]; omega
  have l4 : (appS (appS (appS (appS s a) b) c) d).1.2.1 0 = L + 16 := by rw [appS_len, r1_eq, l3]; omega
  rw [appS_tape, appS_tape, appS_tape, appS_tape, appS_tape, l1, l2, l3, l4, h]
  unfold btAt wAt
  by_cases c4 : L + 16 ≤ j ∧ j < L + 16 + 4
  · rw [if_pos c4, if_pos (by omega), if_neg (by omega), if_neg (by omega), if_neg (by omega), if_neg (by omega), show (j - L) % 4 = j - (L + 16) by omega]
  rw [if_neg c4]
  by_cases c3 : L + 12 ≤ j ∧ j < L + 12 + 4
  · rw [if_pos c3, if_pos (by omega), if_neg (by omega), if_neg (by omega), if_neg (by omega), if_pos (by omega), show (j - L) % 4 = j - (L + 12) by omega]
  rw [if_neg c3]
  by_cases c2 : L + 8 ≤ j ∧ j < L + 8 + 4
  · rw [if_pos c2, if_pos (by omega), if_neg (by omega), if_neg (by omega), if_pos (by omega), show (j - L) % 4 = j - (L + 8) by omega]
  rw [if_neg c2]
  by_cases c1 : L + 4 ≤ j ∧ j < L + 4 + 4
  · rw [if_pos c1, if_pos (by omega), if_neg (by omega), if_pos (by omega), show (j - L) % 4 = j - (L + 4) by omega]
  rw [if_neg c1]
  by_cases c0 : L ≤ j ∧ j < L + 4
  · rw [if_pos c0, if_pos (by omega), if_pos (by omega), show (j - L) % 4 = j - L by omega]
  rw [if_neg c0, if_neg (by omega)]
theorem app5_num {s : STt} {a b c d e L : Int} (h : s.1.2.1 0 = L) : (appS (appS (appS (appS (appS s a) b) c) d) e).1.2.1 = upd1 s.1.2.1 0 (L + 20) := by
  rw [appS_len, appS_len, appS_len, appS_len, appS_len, r1_eq, r1_eq, r1_eq, r1_eq, upd1_2, upd1_2, upd1_2, upd1_2, h]
  rw [show L + 4 + 4 + 4 + 4 + 4 = L + 20 by omega]
def P_X11_feed (o a b c d e : Int) (μ : Mem) : Prop := o = 201 ∧ SOk (stM μ) ∧ r32 a ∧ r32 b ∧ r32 c ∧ r32 d ∧ r32 e
def Q_X11_feed (_ a b c d e : Int) (μ μ' : Mem) (r : Int) : Prop := ChgM (feedS (stM μ) a b c d e) μ μ' r
def S_X11_feed : S0t := fun as μ Q => match as with
  | [(2, x0), (0, x1), (0, x2), (0, x3), (0, x4), (0, x5)] => P_X11_feed x0 x1 x2 x3 x4 x5 μ ∧ ∀ (μ' : Mem) (r : Int), Q_X11_feed x0 x1 x2 x3 x4 x5 μ μ' r → Q μ' (some (kI r))
  | _ => False
theorem mono_X11_feed : Mono S_X11_feed := by
  intro as μ Q Q' h hS
  unfold S_X11_feed at hS ⊢
  split at hS
  · exact ⟨hS.1, fun μ' r q => h _ _ (hS.2 _ _ q)⟩
  · exact hS.elim
def iX11_feed : Inf := (kX11_feed, fTX11, pTX11, cTX11, lTX11, sTX11, [])
theorem ok_X11_feed : infOK iX11_feed mX11_feed RX11 0 0 := ⟨kkX11_feed, fTX11_ok, pTX11_ok _, cTX11_ok, lTX11_ok, sTX11_ok, c_nil⟩
theorem mt_X11_feed : mtOK [] RX11 0 0 := mt_nil
abbrev V_X11_feed (R : Mem → Option AV → Prop) (pc : Nat) (lc : List (Nat × AV)) (μ : Mem) : Prop := VM mX11_feed RX11 0 0 R pc lc [] μ
set_option maxRecDepth 20000 in
theorem vc_X11_feed_0 {R : Mem → Option AV → Prop} {a b c d e : Int} {μ : Mem} (H : r32 ((μ 202 2) + 20) ∧ ((((μ 202 2) + 20) ≤ (500 : Int)) → V_X11_feed R 20 [(0, kR 201), (1, kI a), (2, kI b), (3, kI c), (4, kI d), (5, kI e), (6, kI 0)] μ) ∧ (¬ (((μ 202 2) + 20) ≤ (500 : Int)) → R μ (some (kI (-1))))) : V_X11_feed R 0 [(0, kR 201), (1, kI a), (2, kI b), (3, kI c), (4, kI d), (5, kI e)] μ := by
  refine vm_step2 mt_X11_feed ok_X11_feed [(20, [0, 1, 2, 3, 4, 5, 6]), (106, [0, 1, 2, 3, 4, 5, 6]), (116, [0, 1, 2, 3, 4, 5, 6])] 1000 ?_
  show isC 201 11 ∧ inA 202 0 (2 : Int) ∧ (r32 ((μ 202 2) + 20) ∧ r32 (500 : Int)) ∧ ((((μ 202 2) + 20) ≤ (500 : Int)) → V_X11_feed R 20 [(0, kR 201), (1, kI a), (2, kI b), (3, kI c), (4, kI d), (5, kI e), (6, kI 0)] μ) ∧ (¬ (((μ 202 2) + 20) ≤ (500 : Int)) → R μ (some (kI (-1))))
  exact ⟨c_201, ⟨isArr.in a_202 (by omega) (by omega), ⟨⟨H.1, by unfold r32; omega⟩, fun hc1 => (H.2.1 hc1), fun hc1 => (H.2.2 hc1)⟩⟩⟩
set_option maxRecDepth 20000 in
theorem vc_X11_feed_20 {R : Mem → Option AV → Prop} {a b c d e i : Int} {μ : Mem} (H : r32 i ∧ (((20 : Int) ≤ i) → R μ (some (kI (μ 202 2)))) ∧ (¬ ((20 : Int) ≤ i) → r32 i ∧ (((4 : Int) ≤ i) → r32 i ∧ (((8 : Int) ≤ i) → r32 i ∧ (((12 : Int) ≤ i) → r32 i ∧ (((16 : Int) ≤ i) → r32 i ∧ (0 ≤ (10 + (μ 202 2)) ∧ (10 + (μ 202 2)) < 5160) ∧ V_X11_feed R 106 [(0, kR 201), (1, kI a), (2, kI b), (3, kI c), (4, kI d), (5, kI e), (6, kI i)] (updm μ 202 (10 + (μ 202 2)) (band (bshr e (24 - (8 * (Int.tmod i 4)))) 255))) ∧ (¬ ((16 : Int) ≤ i) → r32 i ∧ (0 ≤ (10 + (μ 202 2)) ∧ (10 + (μ 202 2)) < 5160) ∧ V_X11_feed R 106 [(0, kR 201), (1, kI a), (2, kI b), (3, kI c), (4, kI d), (5, kI e), (6, kI i)] (updm μ 202 (10 + (μ 202 2)) (band (bshr d (24 - (8 * (Int.tmod i 4)))) 255)))) ∧ (¬ ((12 : Int) ≤ i) → r32 i ∧ (0 ≤ (10 + (μ 202 2)) ∧ (10 + (μ 202 2)) < 5160) ∧ V_X11_feed R 106 [(0, kR 201), (1, kI a), (2, kI b), (3, kI c), (4, kI d), (5, kI e), (6, kI i)] (updm μ 202 (10 + (μ 202 2)) (band (bshr c (24 - (8 * (Int.tmod i 4)))) 255)))) ∧ (¬ ((8 : Int) ≤ i) → r32 i ∧ (0 ≤ (10 + (μ 202 2)) ∧ (10 + (μ 202 2)) < 5160) ∧ V_X11_feed R 106 [(0, kR 201), (1, kI a), (2, kI b), (3, kI c), (4, kI d), (5, kI e), (6, kI i)] (updm μ 202 (10 + (μ 202 2)) (band (bshr b (24 - (8 * (Int.tmod i 4)))) 255)))) ∧ (¬ ((4 : Int) ≤ i) → r32 i ∧ (0 ≤ (10 + (μ 202 2)) ∧ (10 + (μ 202 2)) < 5160) ∧ V_X11_feed R 106 [(0, kR 201), (1, kI a), (2, kI b), (3, kI c), (4, kI d), (5, kI e), (6, kI i)] (updm μ 202 (10 + (μ 202 2)) (band (bshr a (24 - (8 * (Int.tmod i 4)))) 255))))) : V_X11_feed R 20 [(0, kR 201), (1, kI a), (2, kI b), (3, kI c), (4, kI d), (5, kI e), (6, kI i)] μ := by
  refine vm_step2 mt_X11_feed ok_X11_feed [(20, [0, 1, 2, 3, 4, 5, 6]), (106, [0, 1, 2, 3, 4, 5, 6]), (116, [0, 1, 2, 3, 4, 5, 6])] 1000 ?_
  show (r32 i ∧ r32 (20 : Int)) ∧ (((20 : Int) ≤ i) → isC 201 11 ∧ inA 202 0 (2 : Int) ∧ R μ (some (kI (μ 202 2)))) ∧ (¬ ((20 : Int) ≤ i) → (r32 i ∧ r32 (4 : Int)) ∧ (((4 : Int) ≤ i) → (r32 i ∧ r32 (8 : Int)) ∧ (((8 : Int) ≤ i) → (r32 i ∧ r32 (12 : Int)) ∧ (((12 : Int) ≤ i) → (r32 i ∧ r32 (16 : Int)) ∧ (((16 : Int) ≤ i) → isC 201 11 ∧ isC 201 11 ∧ inA 202 0 (2 : Int) ∧ (r32 i ∧ r32 (4 : Int) ∧ (4 : Int) ≠ 0) ∧ inA 202 0 (10 + (μ 202 2)) ∧ V_X11_feed R 106 [(0, kR 201), (1, kI a), (2, kI b), (3, kI c), (4, kI d), (5, kI e), (6, kI i)] (updm μ 202 (10 + (μ 202 2)) (band (bshr e (24 - (8 * (Int.tmod i 4)))) 255))) ∧ (¬ ((16 : Int) ≤ i) → isC 201 11 ∧ isC 201 11 ∧ inA 202 0 (2 : Int) ∧ (r32 i ∧ r32 (4 : Int) ∧ (4 : Int) ≠ 0) ∧ inA 202 0 (10 + (μ 202 2)) ∧ V_X11_feed R 106 [(0, kR 201), (1, kI a), (2, kI b), (3, kI c), (4, kI d), (5, kI e), (6, kI i)] (updm μ 202 (10 + (μ 202 2)) (band (bshr d (24 - (8 * (Int.tmod i 4)))) 255)))) ∧ (¬ ((12 : Int) ≤ i) → isC 201 11 ∧ isC 201 11 ∧ inA 202 0 (2 : Int) ∧ (r32 i ∧ r32 (4 : Int) ∧ (4 : Int) ≠ 0) ∧ inA 202 0 (10 + (μ 202 2)) ∧ V_X11_feed R 106 [(0, kR 201), (1, kI a), (2, kI b), (3, kI c), (4, kI d), (5, kI e), (6, kI i)] (updm μ 202 (10 + (μ 202 2)) (band (bshr c (24 - (8 * (Int.tmod i 4)))) 255)))) ∧ (¬ ((8 : Int) ≤ i) → isC 201 11 ∧ isC 201 11 ∧ inA 202 0 (2 : Int) ∧ (r32 i ∧ r32 (4 : Int) ∧ (4 : Int) ≠ 0) ∧ inA 202 0 (10 + (μ 202 2)) ∧ V_X11_feed R 106 [(0, kR 201), (1, kI a), (2, kI b), (3, kI c), (4, kI d), (5, kI e), (6, kI i)] (updm μ 202 (10 + (μ 202 2)) (band (bshr b (24 - (8 * (Int.tmod i 4)))) 255)))) ∧ (¬ ((4 : Int) ≤ i) → isC 201 11 ∧ isC 201 11 ∧ inA 202 0 (2 : Int) ∧ (r32 i ∧ r32 (4 : Int) ∧ (4 : Int) ≠ 0) ∧ inA 202 0 (10 + (μ 202 2)) ∧ V_X11_feed R 106 [(0, kR 201), (1, kI a), (2, kI b), (3, kI c), (4, kI d), (5, kI e), (6, kI i)] (updm μ 202 (10 + (μ 202 2)) (band (bshr a (24 - (8 * (Int.tmod i 4)))) 255))))
  exact ⟨⟨H.1, by unfold r32; omega⟩, fun hc6 => ⟨c_201, ⟨isArr.in a_202 (by omega) (by omega), (H.2.1 hc6)⟩⟩, fun hc6 => ⟨⟨(H.2.2 hc6).1, by unfold r32; omega⟩, fun hc5 => ⟨⟨((H.2.2 hc6).2.1 hc5).1, by unfold r32; omega⟩, fun hc4 => ⟨⟨(((H.2.2 hc6).2.1 hc5).2.1 hc4).1, by unfold r32; omega⟩, fun hc3 => ⟨⟨((((H.2.2 hc6).2.1 hc5).2.1 hc4).2.1 hc3).1, by unfold r32; omega⟩, fun hc2 => ⟨c_201, ⟨c_201, ⟨isArr.in a_202 (by omega) (by omega), ⟨⟨(((((H.2.2 hc6).2.1 hc5).2.1 hc4).2.1 hc3).2.1 hc2).1, by unfold r32; omega, by omega⟩, ⟨isArr.in a_202 (((((H.2.2 hc6).2.1 hc5).2.1 hc4).2.1 hc3).2.1 hc2).2.1.1 (((((H.2.2 hc6).2.1 hc5).2.1 hc4).2.1 hc3).2.1 hc2).2.1.2, (((((H.2.2 hc6).2.1 hc5).2.1 hc4).2.1 hc3).2.1 hc2).2.2⟩⟩⟩⟩⟩, fun hc2 => ⟨c_201, ⟨c_201, ⟨isArr.in a_202 (by omega) (by omega), ⟨⟨(((((H.2.2 hc6).2.1 hc5).2.1 hc4).2.1 hc3).2.2 hc2).1, by unfold r32; omega, by omega⟩, ⟨isArr.in a_202 (((((H.2.2 hc6).2.1 hc5).2.1 hc4).2.1 hc3).2.2 hc2).2.1.1 (((((H.2.2 hc6).2.1 hc5).2.1 hc4).2.1 hc3).2.2 hc2).2.1.2, (((((H.2.2 hc6).2.1 hc5).2.1 hc4).2.1 hc3).2.2 hc2).2.2⟩⟩⟩⟩⟩⟩, fun hc3 => ⟨c_201, ⟨c_201, ⟨isArr.in a_202 (by omega) (by omega), ⟨⟨((((H.2.2 hc6).2.1 hc5).2.1 hc4).2.2 hc3).1, by unfold r32; omega, by omega⟩, ⟨isArr.in a_202 ((((H.2.2 hc6).2.1 hc5).2.1 hc4).2.2 hc3).2.1.1 ((((H.2.2 hc6).2.1 hc5).2.1 hc4).2.2 hc3).2.1.2, ((((H.2.2 hc6).2.1 hc5).2.1 hc4).2.2 hc3).2.2⟩⟩⟩⟩⟩⟩, fun hc4 => ⟨c_201, ⟨c_201, ⟨isArr.in a_202 (by omega) (by omega), ⟨⟨(((H.2.2 hc6).2.1 hc5).2.2 hc4).1, by unfold r32; omega, by omega⟩, ⟨isArr.in a_202 (((H.2.2 hc6).2.1 hc5).2.2 hc4).2.1.1 (((H.2.2 hc6).2.1 hc5).2.2 hc4).2.1.2, (((H.2.2 hc6).2.1 hc5).2.2 hc4).2.2⟩⟩⟩⟩⟩⟩, fun hc5 => ⟨c_201, ⟨c_201, ⟨isArr.in a_202 (by omega) (by omega), ⟨⟨((H.2.2 hc6).2.2 hc5).1, by unfold r32; omega, by omega⟩, ⟨isArr.in a_202 ((H.2.2 hc6).2.2 hc5).2.1.1 ((H.2.2 hc6).2.2 hc5).2.1.2, ((H.2.2 hc6).2.2 hc5).2.2⟩⟩⟩⟩⟩⟩⟩
set_option maxRecDepth 20000 in
theorem vc_X11_feed_106 {R : Mem → Option AV → Prop} {a b c d e i : Int} {μ : Mem} (H : V_X11_feed R 116 [(0, kR 201), (1, kI a), (2, kI b), (3, kI c), (4, kI d), (5, kI e), (6, kI i)] (updm μ 202 2 ((μ 202 2) + 1))) : V_X11_feed R 106 [(0, kR 201), (1, kI a), (2, kI b), (3, kI c), (4, kI d), (5, kI e), (6, kI i)] μ := by
  refine vm_step2 mt_X11_feed ok_X11_feed [(20, [0, 1, 2, 3, 4, 5, 6]), (106, [0, 1, 2, 3, 4, 5, 6]), (116, [0, 1, 2, 3, 4, 5, 6])] 1000 ?_
  show isC 201 11 ∧ inA 202 0 (2 : Int) ∧ inA 202 0 (2 : Int) ∧ V_X11_feed R 116 [(0, kR 201), (1, kI a), (2, kI b), (3, kI c), (4, kI d), (5, kI e), (6, kI i)] (updm μ 202 2 ((μ 202 2) + 1))
  exact ⟨c_201, ⟨isArr.in a_202 (by omega) (by omega), ⟨isArr.in a_202 (by omega) (by omega), H⟩⟩⟩
set_option maxRecDepth 20000 in
theorem vc_X11_feed_116 {R : Mem → Option AV → Prop} {a b c d e i : Int} {μ : Mem} (H : V_X11_feed R 20 [(0, kR 201), (1, kI a), (2, kI b), (3, kI c), (4, kI d), (5, kI e), (6, kI (i + 1))] μ) : V_X11_feed R 116 [(0, kR 201), (1, kI a), (2, kI b), (3, kI c), (4, kI d), (5, kI e), (6, kI i)] μ := by
  refine vm_step2 mt_X11_feed ok_X11_feed [(20, [0, 1, 2, 3, 4, 5, 6]), (106, [0, 1, 2, 3, 4, 5, 6]), (116, [0, 1, 2, 3, 4, 5, 6])] 1000 ?_
  show V_X11_feed R 20 [(0, kR 201), (1, kI a), (2, kI b), (3, kI c), (4, kI d), (5, kI e), (6, kI (i + 1))] μ
  exact H
theorem body_X11_feed {o a b c d e : Int} {μ : Mem} {R : Mem → Option AV → Prop} (h : P_X11_feed o a b c d e μ) (hR : ∀ (μ' : Mem) (r : Int), Q_X11_feed o a b c d e μ μ' r → R μ' (some (kI r))) : V_X11_feed R 0 [(0, kR o), (1, kI a), (2, kI b), (3, kI c), (4, kI d), (5, kI e)] μ := by
  obtain ⟨rfl, hs, r_a, r_b, r_c, r_d, r_e⟩ := h
  have hl := hs.1.1
  rw [mn_0] at hl
  refine vc_X11_feed_0 ⟨rr (by omega), fun c1 => ?_, fun c1 => hR μ _ ?_⟩
  · refine up_ind (P := fun i => ∀ m : Mem, (∀ z : Int, z ≠ 202 → m z = μ z) → m 202 2 = μ 202 2 + i → (∀ j : Int, j ≠ 2 → (j < 10 + μ 202 2 ∨ 10 + μ 202 2 + i ≤ j) → m 202 j = μ 202 j) → (∀ t : Int, 0 ≤ t → t < i → m 202 (10 + μ 202 2 + t) = btAt a b c d e t) → V_X11_feed R 20 [(0, kR 201), (1, kI a), (2, kI b), (3, kI c), (4, kI d), (5, kI e), (6, kI i)] m) (lo := 0) (hi := 20) ?_ ?_ 0 (by omega) (by omega) μ (fun _ _ => rfl) (by omega) (fun _ _ _ => rfl) (fun t t0 t1 => absurd t1 (by omega))
    · intro i i0 i1 ih m hz h2 ho ht
      have em : Int.tmod i 4 = i % 4 := Int.tmod_eq_emod_of_nonneg i0
      have nx : ∀ w : Int, w = wAt a b c d e i → V_X11_feed R 106 [(0, kR 201), (1, kI a), (2, kI b), (3, kI c), (4, kI d), (5, kI e), (6, kI i)] (updm m 202 (10 + m 202 2) (band (bshr w (24 - (8 * (i % 4)))) 255)) := by
        intro w hw
        obtain ⟨m1, e1⟩ : ∃ x, x = updm m 202 (10 + m 202 2) (band (bshr w (24 - (8 * (i % 4)))) 255) := ⟨_, rfl⟩
        rw [← e1]
        have g2 : m1 202 2 = μ 202 2 + i := by rw [e1, ru_eq, r1_ne (by omega), h2]
        refine vc_X11_feed_106 ?_
        obtain ⟨m2, em2⟩ : ∃ x, x = updm m1 202 2 (m1 202 2 + 1) := ⟨_, rfl⟩
        rw [← em2]
        refine vc_X11_feed_116 (ih m2 (fun z hz' => by rw [em2, ru_ne hz', e1, ru_ne hz', hz z hz']) (by rw [em2, ru_eq, r1_eq, g2]; omega) (fun j j2 jo => by rw [em2, ru_eq, r1_ne j2, e1, ru_eq, r1_ne (by omega), ho j j2 (by omega)]) (fun t t0 t1 => ?_))
        rw [em2, ru_eq, r1_ne (by omega), e1, ru_eq, h2]
        by_cases q : t = i
        · rw [q, show 10 + (μ 202 2 + i) = 10 + μ 202 2 + i by omega, r1_eq, b_255, hw]
          rfl
        · rw [r1_ne (by omega)]
          exact ht t t0 (by omega)
      have bw : 0 ≤ 10 + m 202 2 ∧ 10 + m 202 2 < 5160 := by omega
      refine vc_X11_feed_20 ?_
      rw [em]
      refine ⟨rr (by omega), fun q => absurd q (by omega), fun _ => ⟨rr (by omega), fun q1 => ⟨rr (by omega), fun q2 => ⟨rr (by omega), fun q3 => ⟨rr (by omega), fun q4 => ⟨rr (by omega), bw, nx e ?_⟩, fun q4 => ⟨rr (by omega), bw, nx d ?_⟩⟩, fun q3 => ⟨rr (by omega), bw, nx c ?_⟩⟩, fun q2 => ⟨rr (by omega), bw, nx b ?_⟩⟩, fun q1 => ⟨rr (by omega), bw, nx a ?_⟩⟩⟩
      · unfold wAt; rw [if_neg (by omega), if_neg (by omega), if_neg (by omega), if_neg (by omega)]
      · unfold wAt; rw [if_neg (by omega), if_neg (by omega), if_neg (by omega), if_pos (by omega)]
      · unfold wAt; rw [if_neg (by omega), if_neg (by omega), if_pos (by omega)]
      · unfold wAt; rw [if_neg (by omega), if_pos (by omega)]
      · unfold wAt; rw [if_pos (by omega)]
    · intro m hz h2 ho ht
      refine vc_X11_feed_20 ⟨rr (by omega), fun _ => hR m _ ?_, fun q => absurd (Int.le_refl _) q⟩
      unfold Q_X11_feed feedS
      rw [mn_0, if_pos (by omega)]
      refine ⟨?_, h2, fun z hz' => hz z (by omega)⟩
      rw [stM_head (ho 0 (by omega) (by omega)) (fun j j0 => ho j (by omega) (by omega)) (hz 203 (by omega)), h2]
      refine Prod.ext (Prod.ext ?_ (Prod.ext ?_ rfl)) rfl
      · funext j
        show clip (μ 202 2 + 20) (fun j => m 202 (10 + j)) j = (appS (appS (appS (appS (appS (stM μ) a) b) c) d) e).1.1 j
        rw [app5 (mn_0 μ)]
        by_cases q : μ 202 2 ≤ j ∧ j < μ 202 2 + 20
        · rw [if_pos q, clip_in (by omega) q.2]
          show m 202 (10 + j) = _
          rw [← ht (j - μ 202 2) (by omega) (by omega), show 10 + μ 202 2 + (j - μ 202 2) = 10 + j by omega]
        · rw [if_neg q]
          show (if 0 ≤ j ∧ j < μ 202 2 + 20 then m 202 (10 + j) else 0) = if 0 ≤ j ∧ j < μ 202 2 then μ 202 (0 + 10 + j) else 0
          by_cases q2 : 0 ≤ j ∧ j < μ 202 2
          · rw [if_pos (by omega), if_pos q2, ho _ (by omega) (by omega)]
            rfl
          · rw [if_neg (by omega), if_neg q2]
      · show clip 9 (fun k => m 202 (nmM k)) = (appS (appS (appS (appS (appS (stM μ) a) b) c) d) e).1.2.1
        rw [app5_num (mn_0 μ)]
        funext k
        by_cases q : k = 0
        · rw [q, r1_eq, clip_in (by omega) (by omega), nm_0, h2]
        · rw [r1_ne q]
          show (if 0 ≤ k ∧ k < 9 then m 202 (nmM k) else 0) = if 0 ≤ k ∧ k < 9 then μ 202 (0 + nmM k) else 0
          by_cases q2 : 0 ≤ k ∧ k < 9
          · have nn := nm_ne q2.1 q2.2 q
            rw [if_pos q2, if_pos q2, ho _ nn.1 (by omega), Int.zero_add]
          · rw [if_neg q2, if_neg q2]
  · unfold Q_X11_feed feedS
    rw [mn_0, if_neg (by omega)]
    exact ⟨rfl, rfl, fun _ _ => rfl⟩
theorem ct_X11_feed : Ct mX11_feed 0 0 0 0 (nrmS S_X11_feed) := by
  refine ct_vm (own := RX11) (by decide +kernel) rfl ?_ ?_
  · intro as μ Q hS
    unfold S_X11_feed at hS
    split at hS
    · exact Nat.le_of_ble_eq_true rfl
    · exact hS.elim
  · intro as μ R hS
    unfold S_X11_feed at hS
    split at hS
    · exact body_X11_feed hS.1 hS.2
    · exact hS.elim
def P_X11_image (o k : Int) (μ : Mem) : Prop := o = 201 ∧ SOk (stM μ) ∧ r32 k
def Q_X11_image (_ k : Int) (μ μ' : Mem) (r : Int) : Prop := ChgM (imageS (stM μ) k) μ μ' r
def S_X11_image : S0t := fun as μ Q => match as with
  | [(2, x0), (0, x1)] => P_X11_image x0 x1 μ ∧ ∀ (μ' : Mem) (r : Int), Q_X11_image x0 x1 μ μ' r → Q μ' (some (kI r))
  | _ => False
theorem mono_X11_image : Mono S_X11_image := by
  intro as μ Q Q' h hS
  unfold S_X11_image at hS ⊢
  split at hS
  · exact ⟨hS.1, fun μ' r q => h _ _ (hS.2 _ _ q)⟩
  · exact hS.elim
def iX11_image : Inf := (kX11_image, fTX11, pTX11, cTX11, lTX11, sTX11, [(162, 1, 3, 0, S_X11_isIn)])
theorem ok_X11_image : infOK iX11_image mX11_image RX11 1 22 := ⟨kkX11_image, fTX11_ok, pTX11_ok _, cTX11_ok, lTX11_ok, sTX11_ok, c_cons ⟨mX11_isIn, 0, 0, ct_X11_isIn, mmX11_isIn, stX11_isIn, lkX11_162, ⟨by decide, by decide⟩, mono_X11_isIn⟩ (c_nil)⟩
theorem mt_X11_image : mtOK [] RX11 1 22 := mt_nil
abbrev V_X11_image (R : Mem → Option AV → Prop) (pc : Nat) (lc : List (Nat × AV)) (μ : Mem) : Prop := VM mX11_image RX11 1 22 R pc lc [] μ
set_option maxRecDepth 20000 in
theorem vc_X11_image_0 {R : Mem → Option AV → Prop} {k : Int} {μ : Mem} (H : P_X11_isIn k 0 2 μ ∧ r32 (F_X11_isIn k 0 2 μ) ∧ ((¬ (F_X11_isIn k 0 2 μ) = 0) → (0 ≤ k ∧ k < 3) ∧ V_X11_image R 18 [(0, kR 201), (1, kI k)] (updm μ 203 k 1)) ∧ (¬ (¬ (F_X11_isIn k 0 2 μ) = 0) → R μ (some (kI 0)))) : V_X11_image R 0 [(0, kR 201), (1, kI k)] μ := by
  refine vm_step2 mt_X11_image ok_X11_image [(18, [0, 1]), (20, [0, 1, 2]), (47, [0, 1, 2])] 1000 ?_
  show P_X11_isIn k 0 2 μ ∧ r32 (F_X11_isIn k 0 2 μ) ∧ ((¬ (F_X11_isIn k 0 2 μ) = 0) → isC 201 11 ∧ ((inA 203 2 k ∧ -128 ≤ (1 : Int) ∧ (1 : Int) ≤ 127) ∨ (inA 203 3 k ∧ 0 ≤ (1 : Int) ∧ (1 : Int) ≤ 1)) ∧ V_X11_image R 18 [(0, kR 201), (1, kI k)] (updm μ 203 k 1)) ∧ (¬ (¬ (F_X11_isIn k 0 2 μ) = 0) → (0 ≤ (0 : Int) ∧ (0 : Int) ≤ 1) ∧ R μ (some (kI 0)))
  exact ⟨H.1, ⟨H.2.1, fun hc1 => ⟨c_201, ⟨Or.inr ⟨isArr.in a_203 (H.2.2.1 hc1).1.1 (H.2.2.1 hc1).1.2, by omega, by omega⟩, (H.2.2.1 hc1).2⟩⟩, fun hc1 => ⟨⟨by omega, by omega⟩, (H.2.2.2 hc1)⟩⟩⟩
set_option maxRecDepth 20000 in
theorem vc_X11_image_18 {R : Mem → Option AV → Prop} {k : Int} {μ : Mem} (H : V_X11_image R 20 [(0, kR 201), (1, kI k), (2, kI 0)] μ) : V_X11_image R 18 [(0, kR 201), (1, kI k)] μ := by
  refine vm_step2 mt_X11_image ok_X11_image [(18, [0, 1]), (20, [0, 1, 2]), (47, [0, 1, 2])] 1000 ?_
  show V_X11_image R 20 [(0, kR 201), (1, kI k), (2, kI 0)] μ
  exact H
set_option maxRecDepth 20000 in
theorem vc_X11_image_20 {R : Mem → Option AV → Prop} {k i : Int} {μ : Mem} (H : r32 i ∧ (((1290 : Int) ≤ i) → R μ (some (kI 1))) ∧ (¬ ((1290 : Int) ≤ i) → (0 ≤ i ∧ i < 5160) ∧ (0 ≤ ((1290 * (k + 1)) + i) ∧ ((1290 * (k + 1)) + i) < 5160) ∧ V_X11_image R 47 [(0, kR 201), (1, kI k), (2, kI i)] (updm μ 202 ((1290 * (k + 1)) + i) (μ 202 i)))) : V_X11_image R 20 [(0, kR 201), (1, kI k), (2, kI i)] μ := by
  refine vm_step2 mt_X11_image ok_X11_image [(18, [0, 1]), (20, [0, 1, 2]), (47, [0, 1, 2])] 1000 ?_
  show (r32 i ∧ r32 (1290 : Int)) ∧ (((1290 : Int) ≤ i) → (0 ≤ (1 : Int) ∧ (1 : Int) ≤ 1) ∧ R μ (some (kI 1))) ∧ (¬ ((1290 : Int) ≤ i) → isC 201 11 ∧ isC 201 11 ∧ inA 202 0 i ∧ inA 202 0 ((1290 * (k + 1)) + i) ∧ V_X11_image R 47 [(0, kR 201), (1, kI k), (2, kI i)] (updm μ 202 ((1290 * (k + 1)) + i) (μ 202 i)))
  exact ⟨⟨H.1, by unfold r32; omega⟩, fun hc2 => ⟨⟨by omega, by omega⟩, (H.2.1 hc2)⟩, fun hc2 => ⟨c_201, ⟨c_201, ⟨isArr.in a_202 (H.2.2 hc2).1.1 (H.2.2 hc2).1.2, ⟨isArr.in a_202 (H.2.2 hc2).2.1.1 (H.2.2 hc2).2.1.2, (H.2.2 hc2).2.2⟩⟩⟩⟩⟩
set_option maxRecDepth 20000 in
theorem vc_X11_image_47 {R : Mem → Option AV → Prop} {k i : Int} {μ : Mem} (H : V_X11_image R 20 [(0, kR 201), (1, kI k), (2, kI (i + 1))] μ) : V_X11_image R 47 [(0, kR 201), (1, kI k), (2, kI i)] μ := by
  refine vm_step2 mt_X11_image ok_X11_image [(18, [0, 1]), (20, [0, 1, 2]), (47, [0, 1, 2])] 1000 ?_
  show V_X11_image R 20 [(0, kR 201), (1, kI k), (2, kI (i + 1))] μ
  exact H
theorem body_X11_image {o k : Int} {μ : Mem} {R : Mem → Option AV → Prop} (h : P_X11_image o k μ) (hR : ∀ (μ' : Mem) (r : Int), Q_X11_image o k μ μ' r → R μ' (some (kI r))) : V_X11_image R 0 [(0, kR o), (1, kI k)] μ := by
  obtain ⟨rfl, hs, r_k⟩ := h
  have ir := isIn_r (x := k) (lo := 0) (hi := 2) (μ := μ)
  refine vc_X11_image_0 ⟨⟨r_k, rr (by omega), rr (by omega)⟩, rr (by omega), fun d => ?_, fun d => hR μ _ ?_⟩
  · have dk := isIn_1.mp d
    refine ⟨by omega, ?_⟩
    obtain ⟨m1, e1⟩ : ∃ x, x = updm μ 203 k 1 := ⟨_, rfl⟩
    rw [← e1]
    have z1 : ∀ z : Int, z ≠ 203 → m1 z = μ z := fun z hz => by rw [e1, ru_ne hz]
    have h1 : m1 203 = upd1 (μ 203) k 1 := by rw [e1, ru_eq]
    refine vc_X11_image_18 ?_
    refine up_ind (P := fun i => ∀ m : Mem, (∀ z : Int, z ≠ 202 → m z = m1 z) → (∀ j : Int, m 202 j = if 1290 * (k + 1) ≤ j ∧ j < 1290 * (k + 1) + i then μ 202 (j - 1290 * (k + 1)) else μ 202 j) → V_X11_image R 20 [(0, kR 201), (1, kI k), (2, kI i)] m) (lo := 0) (hi := 1290) ?_ ?_ 0 (by omega) (by omega) m1 (fun _ _ => rfl) (fun j => by rw [if_neg (by omega), z1 202 (by omega)])
    · intro i i0 i1 ih m hz hm
      refine vc_X11_image_20 ⟨rr (by omega), fun q => absurd q (by omega), fun _ => ⟨by omega, by omega, ?_⟩⟩
      obtain ⟨m2, em2⟩ : ∃ x, x = updm m 202 (1290 * (k + 1) + i) (m 202 i) := ⟨_, rfl⟩
      rw [← em2]
      refine vc_X11_image_47 (ih m2 (fun z hz' => by rw [em2, ru_ne hz', hz z hz']) (fun j => ?_))
      rw [em2, ru_eq]
      by_cases q : j = 1290 * (k + 1) + i
      · rw [q, r1_eq, if_pos (by omega), hm i, if_neg (by omega), show 1290 * (k + 1) + i - 1290 * (k + 1) = i by omega]
      · rw [r1_ne q, hm j]
        by_cases c : 1290 * (k + 1) ≤ j ∧ j < 1290 * (k + 1) + i
        · rw [if_pos c, if_pos (by omega)]
        · rw [if_neg c, if_neg (by omega)]
    · intro m hz hm
      refine vc_X11_image_20 ⟨rr (by omega), fun _ => hR m 1 ?_, fun q => absurd (Int.le_refl _) q⟩
      unfold Q_X11_image imageS
      rw [if_pos (by omega)]
      have hi : ∀ j : Int, 0 ≤ j → j < 1290 → m 202 (1290 * (k + 1) + j) = μ 202 (0 + j) := fun j j0 j1 => by
        rw [hm, if_pos (by omega), show 1290 * (k + 1) + j - 1290 * (k + 1) = 0 + j by omega]
      have ho : ∀ j : Int, (j < 1290 * (k + 1) ∨ 1290 * (k + 1) + 1290 ≤ j) → m 202 j = μ 202 j := fun j hj => by rw [hm, if_neg (by omega)]
      have h3 : m 203 = upd1 (μ 203) k 1 := by rw [hz 203 (by omega), h1]
      refine ⟨?_, rfl, fun z hz' => by rw [hz z (by omega), z1 z (by omega)]⟩
      refine Prod.ext ?_ (Prod.ext ?_ ?_)
      · show wmF (m 202) 0 = wmF (μ 202) 0
        exact wm_frame hs.1 fun j j0 j1 => ho _ (by omega)
      · show clip 3 (m 203) = upd1 (clip 3 (μ 203)) k 1
        rw [h3]
        funext j
        by_cases e : j = k
        · rw [e, r1_eq, clip_in (by omega) (by omega), r1_eq]
        · rw [r1_ne e]
          unfold clip
          rw [r1_ne e]
      · funext j
        show (if 0 ≤ j ∧ j < 3 ∧ m 203 j = 1 then wmF (m 202) (1290 * (j + 1)) else wv0) = if j = k then wmF (μ 202) 0 else if 0 ≤ j ∧ j < 3 ∧ μ 203 j = 1 then wmF (μ 202) (1290 * (j + 1)) else wv0
        rw [h3]
        by_cases e : j = k
        · rw [e, if_pos ⟨by omega, by omega, r1_eq⟩, if_pos rfl]
          exact wm_frame hs.1 hi
        · rw [r1_ne e, if_neg e]
          by_cases q : 0 ≤ j ∧ j < 3 ∧ μ 203 j = 1
          · rw [if_pos q, if_pos q]
            have ok := (hs.2 j q.1 q.2.1).2 (by rw [mn_h μ q.1 q.2.1]; exact q.2.2)
            have eo : (stM μ).2.2 j = wmF (μ 202) (1290 * (j + 1)) := if_pos q
            rw [eo] at ok
            exact wm_frame ok fun x x0 x1 => ho _ (by omega)
          · rw [if_neg q, if_neg q]
  · unfold Q_X11_image imageS
    rw [if_neg (fun q => d (isIn_1.mpr (by omega)))]
    exact ⟨rfl, rfl, fun _ _ => rfl⟩
theorem ct_X11_image : Ct mX11_image 1 22 0 0 (nrmS S_X11_image) := by
  refine ct_vm (own := RX11) (by decide +kernel) rfl ?_ ?_
  · intro as μ Q hS
    unfold S_X11_image at hS
    split at hS
    · exact Nat.le_of_ble_eq_true rfl
    · exact hS.elim
  · intro as μ R hS
    unfold S_X11_image at hS
    split at hS
    · exact body_X11_image hS.1 hS.2
    · exact hS.elim
def P_X11_again (o k : Int) (μ : Mem) : Prop := o = 201 ∧ SOk (stM μ) ∧ r32 k
def Q_X11_again (_ k : Int) (μ μ' : Mem) (r : Int) : Prop := ChgM (againS (stM μ) k) μ μ' r
def S_X11_again : S0t := fun as μ Q => match as with
  | [(2, x0), (0, x1)] => P_X11_again x0 x1 μ ∧ ∀ (μ' : Mem) (r : Int), Q_X11_again x0 x1 μ μ' r → Q μ' (some (kI r))
  | _ => False
theorem mono_X11_again : Mono S_X11_again := by
  intro as μ Q Q' h hS
  unfold S_X11_again at hS ⊢
  split at hS
  · exact ⟨hS.1, fun μ' r q => h _ _ (hS.2 _ _ q)⟩
  · exact hS.elim
def iX11_again : Inf := (kX11_again, fTX11, pTX11, cTX11, lTX11, sTX11, [(162, 1, 3, 0, S_X11_isIn)])
theorem ok_X11_again : infOK iX11_again mX11_again RX11 1 22 := ⟨kkX11_again, fTX11_ok, pTX11_ok _, cTX11_ok, lTX11_ok, sTX11_ok, c_cons ⟨mX11_isIn, 0, 0, ct_X11_isIn, mmX11_isIn, stX11_isIn, lkX11_162, ⟨by decide, by decide⟩, mono_X11_isIn⟩ (c_nil)⟩
theorem mt_X11_again : mtOK [] RX11 1 22 := mt_nil
abbrev V_X11_again (R : Mem → Option AV → Prop) (pc : Nat) (lc : List (Nat × AV)) (μ : Mem) : Prop := VM mX11_again RX11 1 22 R pc lc [] μ
set_option maxRecDepth 20000 in
theorem vc_X11_again_0 {R : Mem → Option AV → Prop} {k : Int} {μ : Mem} (H : P_X11_isIn k 0 2 μ ∧ r32 (F_X11_isIn k 0 2 μ) ∧ (((F_X11_isIn k 0 2 μ) = 0) → R μ (some (kI 0))) ∧ (¬ ((F_X11_isIn k 0 2 μ) = 0) → (0 ≤ k ∧ k < 3) ∧ r32 (μ 203 k) ∧ ((¬ (μ 203 k) = 0) → V_X11_again R 22 [(0, kR 201), (1, kI k), (2, kI 0)] μ) ∧ (¬ (¬ (μ 203 k) = 0) → R μ (some (kI 0))))) : V_X11_again R 0 [(0, kR 201), (1, kI k)] μ := by
  refine vm_step2 mt_X11_again ok_X11_again [(22, [0, 1, 2]), (49, [0, 1, 2])] 1000 ?_
  show P_X11_isIn k 0 2 μ ∧ r32 (F_X11_isIn k 0 2 μ) ∧ (((F_X11_isIn k 0 2 μ) = 0) → (0 ≤ (0 : Int) ∧ (0 : Int) ≤ 1) ∧ R μ (some (kI 0))) ∧ (¬ ((F_X11_isIn k 0 2 μ) = 0) → isC 201 11 ∧ (inA 203 2 k ∨ inA 203 3 k) ∧ r32 (μ 203 k) ∧ ((¬ (μ 203 k) = 0) → V_X11_again R 22 [(0, kR 201), (1, kI k), (2, kI 0)] μ) ∧ (¬ (¬ (μ 203 k) = 0) → (0 ≤ (0 : Int) ∧ (0 : Int) ≤ 1) ∧ R μ (some (kI 0))))
  exact ⟨H.1, ⟨H.2.1, fun hc2 => ⟨⟨by omega, by omega⟩, (H.2.2.1 hc2)⟩, fun hc2 => ⟨c_201, ⟨Or.inr (isArr.in a_203 (H.2.2.2 hc2).1.1 (H.2.2.2 hc2).1.2), ⟨(H.2.2.2 hc2).2.1, fun hc1 => ((H.2.2.2 hc2).2.2.1 hc1), fun hc1 => ⟨⟨by omega, by omega⟩, ((H.2.2.2 hc2).2.2.2 hc1)⟩⟩⟩⟩⟩⟩
set_option maxRecDepth 20000 in
theorem vc_X11_again_22 {R : Mem → Option AV → Prop} {k i : Int} {μ : Mem} (H : r32 i ∧ (((1290 : Int) ≤ i) → R μ (some (kI 1))) ∧ (¬ ((1290 : Int) ≤ i) → (0 ≤ ((1290 * (k + 1)) + i) ∧ ((1290 * (k + 1)) + i) < 5160) ∧ (0 ≤ i ∧ i < 5160) ∧ V_X11_again R 49 [(0, kR 201), (1, kI k), (2, kI i)] (updm μ 202 i (μ 202 ((1290 * (k + 1)) + i))))) : V_X11_again R 22 [(0, kR 201), (1, kI k), (2, kI i)] μ := by
  refine vm_step2 mt_X11_again ok_X11_again [(22, [0, 1, 2]), (49, [0, 1, 2])] 1000 ?_
  show (r32 i ∧ r32 (1290 : Int)) ∧ (((1290 : Int) ≤ i) → (0 ≤ (1 : Int) ∧ (1 : Int) ≤ 1) ∧ R μ (some (kI 1))) ∧ (¬ ((1290 : Int) ≤ i) → isC 201 11 ∧ isC 201 11 ∧ inA 202 0 ((1290 * (k + 1)) + i) ∧ inA 202 0 i ∧ V_X11_again R 49 [(0, kR 201), (1, kI k), (2, kI i)] (updm μ 202 i (μ 202 ((1290 * (k + 1)) + i))))
  exact ⟨⟨H.1, by unfold r32; omega⟩, fun hc3 => ⟨⟨by omega, by omega⟩, (H.2.1 hc3)⟩, fun hc3 => ⟨c_201, ⟨c_201, ⟨isArr.in a_202 (H.2.2 hc3).1.1 (H.2.2 hc3).1.2, ⟨isArr.in a_202 (H.2.2 hc3).2.1.1 (H.2.2 hc3).2.1.2, (H.2.2 hc3).2.2⟩⟩⟩⟩⟩
set_option maxRecDepth 20000 in
theorem vc_X11_again_49 {R : Mem → Option AV → Prop} {k i : Int} {μ : Mem} (H : V_X11_again R 22 [(0, kR 201), (1, kI k), (2, kI (i + 1))] μ) : V_X11_again R 49 [(0, kR 201), (1, kI k), (2, kI i)] μ := by
  refine vm_step2 mt_X11_again ok_X11_again [(22, [0, 1, 2]), (49, [0, 1, 2])] 1000 ?_
  show V_X11_again R 22 [(0, kR 201), (1, kI k), (2, kI (i + 1))] μ
  exact H
theorem body_X11_again {o k : Int} {μ : Mem} {R : Mem → Option AV → Prop} (h : P_X11_again o k μ) (hR : ∀ (μ' : Mem) (r : Int), Q_X11_again o k μ μ' r → R μ' (some (kI r))) : V_X11_again R 0 [(0, kR o), (1, kI k)] μ := by
  obtain ⟨rfl, hs, r_k⟩ := h
  have ir := isIn_r (x := k) (lo := 0) (hi := 2) (μ := μ)
  have no : ¬ ((0 ≤ k ∧ k < 3) ∧ μ 203 k = 1) → Q_X11_again 201 k μ μ 0 := fun q => by
    unfold Q_X11_again againS
    rw [if_neg (fun e => q ⟨e.1, by rw [← mn_h μ e.1.1 e.1.2]; exact e.2⟩)]
    exact ⟨rfl, rfl, fun _ _ => rfl⟩
  refine vc_X11_again_0 ⟨⟨r_k, rr (by omega), rr (by omega)⟩, rr (by omega), fun d => hR μ _ (no (fun q => isIn_1.mpr (by omega) d)), fun d => ?_⟩
  have dk := isIn_1.mp d
  have hk := hs.2 k dk.1 (by omega)
  rw [mn_h μ dk.1 (by omega)] at hk
  refine ⟨by omega, rr (by omega), fun d2 => ?_, fun d2 => hR μ _ (no (by omega))⟩
  have d1 : μ 203 k = 1 := by omega
  have okk := hk.2 d1
  have eo : (stM μ).2.2 k = wmF (μ 202) (1290 * (k + 1)) := if_pos ⟨dk.1, by omega, d1⟩
  rw [eo] at okk
  refine up_ind (P := fun i => ∀ m : Mem, (∀ z : Int, z ≠ 202 → m z = μ z) → (∀ j : Int, m 202 j = if 0 ≤ j ∧ j < i then μ 202 (1290 * (k + 1) + j) else μ 202 j) → V_X11_again R 22 [(0, kR 201), (1, kI k), (2, kI i)] m) (lo := 0) (hi := 1290) ?_ ?_ 0 (by omega) (by omega) μ (fun _ _ => rfl) (fun j => by rw [if_neg (by omega)])
  · intro i i0 i1 ih m hz hm
    refine vc_X11_again_22 ⟨rr (by omega), fun q => absurd q (by omega), fun _ => ⟨by omega, by omega, ?_⟩⟩
    obtain ⟨m2, em2⟩ : ∃ x, x = updm m 202 i (m 202 (1290 * (k + 1) + i)) := ⟨_, rfl⟩
    rw [← em2]
    refine vc_X11_again_49 (ih m2 (fun z hz' => by rw [em2, ru_ne hz', hz z hz']) (fun j => ?_))
    rw [em2, ru_eq]
    by_cases q : j = i
    · rw [q, r1_eq, if_pos (by omega), hm, if_neg (by omega)]
    · rw [r1_ne q, hm j]
      by_cases c : 0 ≤ j ∧ j < i
      · rw [if_pos c, if_pos (by omega)]
      · rw [if_neg c, if_neg (by omega)]
  · intro m hz hm
    refine vc_X11_again_22 ⟨rr (by omega), fun _ => hR m 1 ?_, fun q => absurd (Int.le_refl _) q⟩
    unfold Q_X11_again againS
    rw [mn_h μ dk.1 (by omega), if_pos ⟨by omega, d1⟩, eo]
    refine ⟨?_, rfl, fun z hz' => hz z (by omega)⟩
    refine Prod.ext ?_ (Prod.ext ?_ ?_)
    · show wmF (m 202) 0 = wmF (μ 202) (1290 * (k + 1))
      exact wm_frame okk fun j j0 j1 => by rw [Int.zero_add, hm, if_pos ⟨j0, j1⟩]
    · show clip 3 (m 203) = clip 3 (μ 203)
      rw [hz 203 (by omega)]
    · funext j
      show (if 0 ≤ j ∧ j < 3 ∧ m 203 j = 1 then wmF (m 202) (1290 * (j + 1)) else wv0) = if 0 ≤ j ∧ j < 3 ∧ μ 203 j = 1 then wmF (μ 202) (1290 * (j + 1)) else wv0
      rw [hz 203 (by omega)]
      by_cases q : 0 ≤ j ∧ j < 3 ∧ μ 203 j = 1
      · rw [if_pos q, if_pos q]
        exact wmF_up fun x x0 => by rw [hm, if_neg (by omega)]
      · rw [if_neg q, if_neg q]
theorem ct_X11_again : Ct mX11_again 1 22 0 0 (nrmS S_X11_again) := by
  refine ct_vm (own := RX11) (by decide +kernel) rfl ?_ ?_
  · intro as μ Q hS
    unfold S_X11_again at hS
    split at hS
    · exact Nat.le_of_ble_eq_true rfl
    · exact hS.elim
  · intro as μ R hS
    unfold S_X11_again at hS
    split at hS
    · exact body_X11_again hS.1 hS.2
    · exact hS.elim
