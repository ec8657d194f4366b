/-! what a call changes of the tape -/
theorem CI_head {c : Int} {μ m : Mem} (h : CI c μ) (hf : ∀ z : Int, z ≠ 1 → z ≠ 2 → m z = μ z) (h2 : 0 ≤ m 1 2 ∧ m 1 2 ≤ 500) (hk : ∀ k : Int, k ≠ 2 → m 1 k = μ 1 k) (hby : BY m 2) : CI c m := by
  obtain ⟨Mk, hc, hm, hw, hb, hi, g1, g2, n1, o1⟩ := h
  have e0 : m 0 = μ 0 := hf 0 (by omega) (by omega)
  refine ⟨Mk, hc, by rw [e0]; exact hm, ?_, hby, fun k k0 k1 => ?_, GInv_frame g1 (fun z z0 z1 => hf z (by omega) (by omega)), GInv_frame g2 (fun z z0 z1 => hf z (by omega) (by omega)), NC_frame n1 e0 (hf 186 (by omega) (by omega)) (hf 192 (by omega) (by omega)), OC_frame o1 e0 (hf 178 (by omega) (by omega))⟩
  · obtain ⟨w1, w2, w3, w4, w5, w6⟩ := hw
    unfold WI
    rw [hk 5 (by omega), hk 6 (by omega)]
    refine ⟨w1, h2, w3, w4, fun f f0 f1 => ?_, fun i i0 i1 => TG_frame (w6 i i0 i1) (fun z z0 z1 => hf z (by omega) (by omega)) (by rw [e0])⟩
    by_cases e : f = 2
    · rw [e]; exact rr (by omega)
    · rw [hk f e]; exact w5 f f0 f1
  · have q := hi k k0 k1
    rw [hf 134 (by omega) (by omega)]
    exact ⟨q.1, by unfold BY; rw [hf (36 + 33 * k) (by omega) (by omega)]; exact q.2.1, fun e => WI_frame (q.2.2 e) (fun z z0 z1 => hf z (by omega) (by omega)) (by rw [e0])⟩
theorem stC_head {c : Int} {μ m : Mem} (h : CI c μ) (hf : ∀ z : Int, z ≠ 1 → z ≠ 2 → m z = μ z) (hk : ∀ k : Int, k ≠ 2 → m 1 k = μ 1 k) : stC m = ((clip (m 1 2) (fun j => m 2 j % 256), upd1 (stC μ).1.2.1 0 (m 1 2), (stC μ).1.2.2), (stC μ).2) := by
  obtain ⟨Mk, hc, hm, hw, hb, hi, g1, g2, n1, o1⟩ := h
  unfold stC
  refine Prod.ext (Prod.ext rfl (Prod.ext ?_ ?_)) (Prod.ext ?_ ?_)
  · funext f
    show clip 9 (fun f => m 1 (f + 2)) f = upd1 (clip 9 (fun f => μ 1 (f + 2))) 0 (m 1 2) f
    by_cases e : f = 0
    · rw [e, r1_eq]; rfl
    · rw [r1_ne e]
      show (if 0 ≤ f ∧ f < 9 then m 1 (f + 2) else 0) = if 0 ≤ f ∧ f < 9 then μ 1 (f + 2) else 0
      rw [hk (f + 2) (by omega)]
  · funext i
    show (if 0 ≤ i ∧ i < m 1 5 then tv m (1 + 3 + 10 * i) else tv0) = if 0 ≤ i ∧ i < μ 1 5 then tv μ (1 + 3 + 10 * i) else tv0
    rw [hk 5 (by omega)]
    by_cases q : 0 ≤ i ∧ i < μ 1 5
    · rw [if_pos q, if_pos q]
      exact tv_frame fun z z0 z1 => hf z (by omega) (by omega)
    · rw [if_neg q, if_neg q]
  · show clip 3 (m 134) = clip 3 (μ 134)
    rw [hf 134 (by omega) (by omega)]
  · funext k
    show (if 0 ≤ k ∧ k < 3 ∧ m 134 k = 1 then wvC m (35 + 33 * k) else wv0) = if 0 ≤ k ∧ k < 3 ∧ μ 134 k = 1 then wvC μ (35 + 33 * k) else wv0
    rw [hf 134 (by omega) (by omega)]
    by_cases q : 0 ≤ k ∧ k < 3 ∧ μ 134 k = 1
    · rw [if_pos q, if_pos q, wvC_frame ((hi k q.1 q.2.1).2.2 q.2.2) (fun z z0 z1 => hf z (by omega) (by omega))]
    · rw [if_neg q, if_neg q]
theorem st_0 (μ : Mem) : (stC μ).1.2.1 0 = μ 1 2 := (clip_in (n := 9) (j := 0) (f := fun f => μ 1 (f + 2)) (by omega) (by omega) : clip 9 (fun f => μ 1 (f + 2)) 0 = μ 1 (0 + 2))
def endS (s : STt) (n : Int) : STt × Int := if 0 ≤ n ∧ n ≤ s.1.2.1 0 then (((clip n s.1.1, upd1 s.1.2.1 0 n, s.1.2.2), s.2), n) else (s, -1)
def P_X10_end (o n : Int) (μ : Mem) : Prop := o = 0 ∧ (∃ c, CI c μ) ∧ r32 n
def Q_X10_end (_ n : Int) (μ μ' : Mem) (r : Int) : Prop := Chg (endS (stC μ) n) μ μ' r
def S_X10_end : S0t := fun as μ Q => match as with
  | [(2, x0), (0, x1)] => P_X10_end x0 x1 μ ∧ ∀ (μ' : Mem) (r : Int), Q_X10_end x0 x1 μ μ' r → Q μ' (some (kI r))
  | _ => False
theorem mono_X10_end : Mono S_X10_end := by
  intro as μ Q Q' h hS
  unfold S_X10_end at hS ⊢
  split at hS
  · exact ⟨hS.1, fun μ' r q => h _ _ (hS.2 _ _ q)⟩
  · exact hS.elim
def iX10_end : Inf := (kX10_end, fTX10, pTX10, cTX10, lTX10, sTX10, [])
theorem ok_X10_end : infOK iX10_end mX10_end RX10 0 0 := ⟨kkX10_end, fTX10_ok, pTX10_ok _, cTX10_ok, lTX10_ok, sTX10_ok, c_nil⟩
theorem mt_X10_end : mtOK [] RX10 0 0 := mt_nil
abbrev V_X10_end (R : Mem → Option AV → Prop) (pc : Nat) (lc : List (Nat × AV)) (μ : Mem) : Prop := VM mX10_end RX10 0 0 R pc lc [] μ
set_option maxRecDepth 20000 in
theorem vc_X10_end_0 {R : Mem → Option AV → Prop} {n : Int} {μ : Mem} (H : r32 n ∧ ((n < 0) → R μ (some (kI (-1)))) ∧ (¬ (n < 0) → r32 n ∧ r32 (μ 1 2) ∧ ((n ≤ (μ 1 2)) → V_X10_end R 25 [(1, kI n)] (updm μ 1 2 n)) ∧ (¬ (n ≤ (μ 1 2)) → R μ (some (kI (-1)))))) : V_X10_end R 0 [(0, kR 0), (1, kI n)] μ := by
  refine vm_step2 mt_X10_end ok_X10_end [(25, [1])] 1000 ?_
  show r32 n ∧ ((n < 0) → R μ (some (kI (-1)))) ∧ (¬ (n < 0) → isC 0 10 ∧ isC 1 9 ∧ (r32 n ∧ r32 (μ 1 2)) ∧ ((n ≤ (μ 1 2)) → isC 0 10 ∧ isC 1 9 ∧ 0 = 0 ∧ True ∧ V_X10_end R 25 [(1, kI n)] (updm μ 1 2 n)) ∧ (¬ (n ≤ (μ 1 2)) → R μ (some (kI (-1)))))
  exact ⟨H.1, fun hc2 => (H.2.1 hc2), fun hc2 => ⟨c_0, ⟨c_1, ⟨⟨(H.2.2 hc2).1, (H.2.2 hc2).2.1⟩, fun hc1 => ⟨c_0, ⟨c_1, rfl, trivial, ((H.2.2 hc2).2.2.1 hc1)⟩⟩, fun hc1 => ((H.2.2 hc2).2.2.2 hc1)⟩⟩⟩⟩
set_option maxRecDepth 20000 in
theorem vc_X10_end_25 {R : Mem → Option AV → Prop} {n : Int} {μ : Mem} (H : R μ (some (kI n))) : V_X10_end R 25 [(1, kI n)] μ := by
  refine vm_step2 mt_X10_end ok_X10_end [(25, [1])] 1000 ?_
  show R μ (some (kI n))
  exact H
theorem body_X10_end {o n : Int} {μ : Mem} {R : Mem → Option AV → Prop} (h : P_X10_end o n μ) (hR : ∀ (μ' : Mem) (r : Int), Q_X10_end o n μ μ' r → R μ' (some (kI r))) : V_X10_end R 0 [(0, kR o), (1, kI n)] μ := by
  obtain ⟨rfl, ⟨c, hc⟩, r_n⟩ := h
  have hl : 0 ≤ μ 1 2 ∧ μ 1 2 ≤ 500 := by
    obtain ⟨Mk, _, _, hw, _⟩ := hc
    exact hw.2.1
  have no : ¬ (0 ≤ n ∧ n ≤ μ 1 2) → Q_X10_end 0 n μ μ (-1) := fun q => by
    unfold Q_X10_end endS
    rw [st_0, if_neg q]
    exact ⟨fun _ h => h, rfl, rfl, fun _ _ => rfl⟩
  refine vc_X10_end_0 ⟨r_n, fun c1 => hR μ _ (no (by omega)), fun c1 => ⟨r_n, rr (by omega), fun c2 => vc_X10_end_25 ?_, fun c2 => hR μ _ (no (by omega))⟩⟩
  obtain ⟨m, em⟩ : ∃ m, m = updm μ 1 2 n := ⟨_, rfl⟩
  rw [← em]
  have fo : ∀ z : Int, z ≠ 1 → m z = μ z := fun z hz => by rw [em, ru_ne hz]
  have fk : ∀ k : Int, k ≠ 2 → m 1 k = μ 1 k := fun k hk => by rw [em, ru_eq, r1_ne hk]
  have f2 : m 1 2 = n := by rw [em, ru_eq, r1_eq]
  refine hR m n ?_
  unfold Q_X10_end endS
  rw [st_0, if_pos ⟨by omega, c2⟩]
  refine ⟨fun c h => CI_head h (fun z z1 _ => fo z z1) (by omega) fk ?_, ?_, rfl, fun z hz => fo z (by omega)⟩
  · obtain ⟨Mk, _, _, _, hb, _⟩ := h
    unfold BY
    rw [fo 2 (by omega)]; exact hb
  · rw [stC_head hc (fun z z1 _ => fo z z1) fk, f2, fo 2 (by omega)]
    refine Prod.ext (Prod.ext ?_ rfl) rfl
    funext j
    show clip n (fun j => μ 2 j % 256) j = clip n (clip (μ 1 2) (fun j => μ 2 j % 256)) j
    unfold clip
    by_cases q : 0 ≤ j ∧ j < n
    · rw [if_pos q, if_pos q, if_pos (by omega)]
    · rw [if_neg q, if_neg q]
theorem ct_X10_end : Ct mX10_end 0 0 0 0 (nrmS S_X10_end) := by
  refine ct_vm (own := RX10) (by decide +kernel) rfl ?_ ?_
  · intro as μ Q hS
    unfold S_X10_end at hS
    split at hS
    · exact Nat.le_of_ble_eq_true rfl
    · exact hS.elim
  · intro as μ R hS
    unfold S_X10_end at hS
    split at hS
    · exact body_X10_end hS.1 hS.2
    · exact hS.elim
/-- four bytes more on the tape -/
def appS (s : STt) (k : Int) : STt := ((upd1 (upd1 (upd1 (upd1 s.1.1 (s.1.2.1 0) (byteV k 24 % 256)) (s.1.2.1 0 + 1) (byteV k 16 % 256)) (s.1.2.1 0 + 2) (byteV k 8 % 256)) (s.1.2.1 0 + 3) (byteV k 0 % 256), upd1 s.1.2.1 0 (s.1.2.1 0 + 4), s.1.2.2), s.2)
def feedS (s : STt) (a b c d e : Int) : STt × Int := if s.1.2.1 0 ≤ 480 then (appS (appS (appS (appS (appS s a) b) c) d) e, s.1.2.1 0 + 20) else (s, -1)
theorem app_step {c k : Int} {μ m : Mem} (h : CI c μ) (hl : μ 1 2 ≤ 496) (q : Q_X9_append 1 k μ m) : CI c m ∧ stC m = appS (stC μ) k ∧ m 1 2 = μ 1 2 + 4 := by
  obtain ⟨q1, q2, q3⟩ := q
  have q2' : m 2 = upd1 (upd1 (upd1 (upd1 (μ 2) (μ 1 2) (byteV k 24)) (μ 1 2 + 1) (byteV k 16)) (μ 1 2 + 2) (byteV k 8)) (μ 1 2 + 3) (byteV k 0) := q2
  have hl0 : 0 ≤ μ 1 2 := by
    obtain ⟨Mk, _, _, hw, _⟩ := h
    exact hw.2.1.1
  have hby : BY μ 2 := by
    obtain ⟨Mk, _, _, _, hb, _⟩ := h
    exact hb
  have e2 : m 1 2 = μ 1 2 + 4 := by rw [q1, r1_eq]
  have fk : ∀ k : Int, k ≠ 2 → m 1 k = μ 1 k := fun k hk => by rw [q1, r1_ne hk]
  have fo : ∀ z : Int, z ≠ 1 → z ≠ 2 → m z = μ z := fun z h1 h2 => q3 z h1 h2
  refine ⟨CI_head h fo (by omega) fk (fun j j0 j1 => ?_), ?_, e2⟩
  · rw [q2']
    have b1 := byteV_bd k 24
    have b2 := byteV_bd k 16
    have b3 := byteV_bd k 8
    have b4 := byteV_bd k 0
    have b5 := hby j j0 j1
    unfold upd1
    split
    · exact b4
    · split
      · exact b3
      · split
        · exact b2
        · split
          · exact b1
          · exact b5
  · rw [stC_head h fo fk, e2]
    unfold appS
    rw [st_0]
    refine Prod.ext (Prod.ext ?_ rfl) rfl
    funext j
    show clip (μ 1 2 + 4) (fun j => m 2 j % 256) j = upd1 (upd1 (upd1 (upd1 (clip (μ 1 2) (fun j => μ 2 j % 256)) (μ 1 2) (byteV k 24 % 256)) (μ 1 2 + 1) (byteV k 16 % 256)) (μ 1 2 + 2) (byteV k 8 % 256)) (μ 1 2 + 3) (byteV k 0 % 256) j
    show (if 0 ≤ j ∧ j < μ 1 2 + 4 then m 2 j % 256 else 0) = _
    rw [q2']
    by_cases c3 : j = μ 1 2 + 3
    · rw [c3, r1_eq, r1_eq, if_pos (by omega)]
    rw [r1_ne c3, r1_ne c3]
    by_cases c2 : j = μ 1 2 + 2
    · rw [c2, r1_eq, r1_eq, if_pos (by omega)]
    rw [r1_ne c2, r1_ne c2]
    by_cases c1 : j = μ 1 2 + 1
    · rw [c1, r1_eq, r1_eq, if_pos (by omega)]
    rw [r1_ne c1, r1_ne c1]
    by_cases c0 : j = μ 1 2
    · rw [c0, r1_eq, r1_eq, if_pos (by omega)]
    rw [r1_ne c0, r1_ne c0]
    show _ = if 0 ≤ j ∧ j < μ 1 2 then μ 2 j % 256 else 0
    by_cases cj : 0 ≤ j ∧ j < μ 1 2
    · rw [if_pos cj, if_pos (by omega)]
    · rw [if_neg cj, if_neg (by omega)]
def P_X10_feed (o a b c d e : Int) (μ : Mem) : Prop := o = 0 ∧ (∃ c, CI c μ) ∧ r32 a ∧ r32 b ∧ r32 c ∧ r32 d ∧ r32 e
def Q_X10_feed (_ a b c d e : Int) (μ μ' : Mem) (r : Int) : Prop := Chg (feedS (stC μ) a b c d e) μ μ' r
def S_X10_feed : S0t := fun as μ Q => match as with
  | [(2, x0), (0, x1), (0, x2), (0, x3), (0, x4), (0, x5)] => P_X10_feed x0 x1 x2 x3 x4 x5 μ ∧ ∀ (μ' : Mem) (r : Int), Q_X10_feed x0 x1 x2 x3 x4 x5 μ μ' r → Q μ' (some (kI r))
  | _ => False
theorem mono_X10_feed : Mono S_X10_feed := by
  intro as μ Q Q' h hS
  unfold S_X10_feed at hS ⊢
  split at hS
  · exact ⟨hS.1, fun μ' r q => h _ _ (hS.2 _ _ q)⟩
  · exact hS.elim
def iX10_feed : Inf := (kX10_feed, fTX10, pTX10, cTX10, lTX10, sTX10, [(97, 0, 1, 9, S_X9_append)])
theorem ok_X10_feed : infOK iX10_feed mX10_feed RX10 1 22 := ⟨kkX10_feed, fTX10_ok, pTX10_ok _, cTX10_ok, lTX10_ok, sTX10_ok, c_cons ⟨mX9_append, 0, 0, ct_X9_append, mmX9_append, vvX9_append, lkX10_97, ⟨by decide, by decide⟩, ⟨_, _, rfl⟩, by decide, mono_X9_append⟩ (c_nil)⟩
theorem mt_X10_feed : mtOK [] RX10 1 22 := mt_nil
abbrev V_X10_feed (R : Mem → Option AV → Prop) (pc : Nat) (lc : List (Nat × AV)) (μ : Mem) : Prop := VM mX10_feed RX10 1 22 R pc lc [] μ
set_option maxRecDepth 20000 in
theorem vc_X10_feed_0 {R : Mem → Option AV → Prop} {a b c d e : Int} {μ : Mem} (H : r32 (μ 1 2) ∧ (((μ 1 2) ≤ (480 : Int)) → P_X9_append 1 a μ ∧ (∀ (μ1 : Mem), Q_X9_append 1 a μ μ1 → V_X10_feed R 23 [(0, kR 0), (2, kI b), (3, kI c), (4, kI d), (5, kI e)] μ1)) ∧ (¬ ((μ 1 2) ≤ (480 : Int)) → R μ (some (kI (-1))))) : V_X10_feed R 0 [(0, kR 0), (1, kI a), (2, kI b), (3, kI c), (4, kI d), (5, kI e)] μ := by
  refine vm_step2 mt_X10_feed ok_X10_feed [(23, [0, 2, 3, 4, 5]), (31, [0, 3, 4, 5]), (39, [0, 4, 5]), (48, [0, 5]), (57, [0])] 1000 ?_
  show isC 0 10 ∧ isC 1 9 ∧ (r32 (μ 1 2) ∧ r32 (480 : Int)) ∧ (((μ 1 2) ≤ (480 : Int)) → isC 0 10 ∧ isC 1 9 ∧ P_X9_append 1 a μ ∧ (∀ (μ1 : Mem), Q_X9_append 1 a μ μ1 → V_X10_feed R 23 [(0, kR 0), (2, kI b), (3, kI c), (4, kI d), (5, kI e)] μ1)) ∧ (¬ ((μ 1 2) ≤ (480 : Int)) → R μ (some (kI (-1))))
  exact ⟨c_0, ⟨c_1, ⟨⟨H.1, by unfold r32; omega⟩, fun hc4 => ⟨c_0, ⟨c_1, (H.2.1 hc4).1, fun μ1 hq3 => ((H.2.1 hc4).2 μ1 hq3)⟩⟩, fun hc4 => (H.2.2 hc4)⟩⟩⟩
set_option maxRecDepth 20000 in
theorem vc_X10_feed_23 {R : Mem → Option AV → Prop} {b c d e : Int} {μ : Mem} (H : P_X9_append 1 b μ ∧ (∀ (μ5 : Mem), Q_X9_append 1 b μ μ5 → V_X10_feed R 31 [(0, kR 0), (3, kI c), (4, kI d), (5, kI e)] μ5)) : V_X10_feed R 23 [(0, kR 0), (2, kI b), (3, kI c), (4, kI d), (5, kI e)] μ := by
  refine vm_step2 mt_X10_feed ok_X10_feed [(23, [0, 2, 3, 4, 5]), (31, [0, 3, 4, 5]), (39, [0, 4, 5]), (48, [0, 5]), (57, [0])] 1000 ?_
  show isC 0 10 ∧ isC 1 9 ∧ P_X9_append 1 b μ ∧ (∀ (μ5 : Mem), Q_X9_append 1 b μ μ5 → V_X10_feed R 31 [(0, kR 0), (3, kI c), (4, kI d), (5, kI e)] μ5)
  exact ⟨c_0, ⟨c_1, H.1, fun μ5 hq7 => (H.2 μ5 hq7)⟩⟩
set_option maxRecDepth 20000 in
theorem vc_X10_feed_31 {R : Mem → Option AV → Prop} {c d e : Int} {μ : Mem} (H : P_X9_append 1 c μ ∧ (∀ (μ8 : Mem), Q_X9_append 1 c μ μ8 → V_X10_feed R 39 [(0, kR 0), (4, kI d), (5, kI e)] μ8)) : V_X10_feed R 31 [(0, kR 0), (3, kI c), (4, kI d), (5, kI e)] μ := by
  refine vm_step2 mt_X10_feed ok_X10_feed [(23, [0, 2, 3, 4, 5]), (31, [0, 3, 4, 5]), (39, [0, 4, 5]), (48, [0, 5]), (57, [0])] 1000 ?_
  show isC 0 10 ∧ isC 1 9 ∧ P_X9_append 1 c μ ∧ (∀ (μ8 : Mem), Q_X9_append 1 c μ μ8 → V_X10_feed R 39 [(0, kR 0), (4, kI d), (5, kI e)] μ8)
  exact ⟨c_0, ⟨c_1, H.1, fun μ8 hq10 => (H.2 μ8 hq10)⟩⟩
set_option maxRecDepth 20000 in
theorem vc_X10_feed_39 {R : Mem → Option AV → Prop} {d e : Int} {μ : Mem} (H : P_X9_append 1 d μ ∧ (∀ (μ11 : Mem), Q_X9_append 1 d μ μ11 → V_X10_feed R 48 [(0, kR 0), (5, kI e)] μ11)) : V_X10_feed R 39 [(0, kR 0), (4, kI d), (5, kI e)] μ := by
  refine vm_step2 mt_X10_feed ok_X10_feed [(23, [0, 2, 3, 4, 5]), (31, [0, 3, 4, 5]), (39, [0, 4, 5]), (48, [0, 5]), (57, [0])] 1000 ?_
  show isC 0 10 ∧ isC 1 9 ∧ P_X9_append 1 d μ ∧ (∀ (μ11 : Mem), Q_X9_append 1 d μ μ11 → V_X10_feed R 48 [(0, kR 0), (5, kI e)] μ11)
  exact ⟨c_0, ⟨c_1, H.1, fun μ11 hq13 => (H.2 μ11 hq13)⟩⟩
set_option maxRecDepth 20000 in
theorem vc_X10_feed_48 {R : Mem → Option AV → Prop} {e : Int} {μ : Mem} (H : P_X9_append 1 e μ ∧ (∀ (μ14 : Mem), Q_X9_append 1 e μ μ14 → V_X10_feed R 57 [(0, kR 0)] μ14)) : V_X10_feed R 48 [(0, kR 0), (5, kI e)] μ := by
  refine vm_step2 mt_X10_feed ok_X10_feed [(23, [0, 2, 3, 4, 5]), (31, [0, 3, 4, 5]), (39, [0, 4, 5]), (48, [0, 5]), (57, [0])] 1000 ?_
  show isC 0 10 ∧ isC 1 9 ∧ P_X9_append 1 e μ ∧ (∀ (μ14 : Mem), Q_X9_append 1 e μ μ14 → V_X10_feed R 57 [(0, kR 0)] μ14)
  exact ⟨c_0, ⟨c_1, H.1, fun μ14 hq16 => (H.2 μ14 hq16)⟩⟩
set_option maxRecDepth 20000 in
theorem vc_X10_feed_57 {R : Mem → Option AV → Prop} {μ : Mem} (H : R μ (some (kI (μ 1 2)))) : V_X10_feed R 57 [(0, kR 0)] μ := by
  refine vm_step2 mt_X10_feed ok_X10_feed [(23, [0, 2, 3, 4, 5]), (31, [0, 3, 4, 5]), (39, [0, 4, 5]), (48, [0, 5]), (57, [0])] 1000 ?_
  show isC 0 10 ∧ isC 1 9 ∧ R μ (some (kI (μ 1 2)))
  exact ⟨c_0, ⟨c_1, H⟩⟩
theorem body_X10_feed {o a b c d e : Int} {μ : Mem} {R : Mem → Option AV → Prop} (h : P_X10_feed o a b c d e μ) (hR : ∀ (μ' : Mem) (r : Int), Q_X10_feed o a b c d e μ μ' r → R μ' (some (kI r))) : V_X10_feed R 0 [(0, kR o), (1, kI a), (2, kI b), (3, kI c), (4, kI d), (5, kI e)] μ := by
  obtain ⟨rfl, ⟨x, hc⟩, r_a, r_b, r_c, r_d, r_e⟩ := h
  have h1 : isW 1 := by unfold isW; decide
  have hl : 0 ≤ μ 1 2 ∧ μ 1 2 ≤ 500 := by
    obtain ⟨Mk, _, _, hw, _⟩ := hc
    exact hw.2.1
  refine vc_X10_feed_0 ⟨rr (by omega), fun c1 => ⟨⟨h1, by omega⟩, fun m1 q1 => ?_⟩, fun c1 => hR μ _ ?_⟩
  · have g1 := fun y (hy : CI y μ) => app_step hy (by omega) q1
    have s1 := g1 x hc
    refine vc_X10_feed_23 ⟨⟨h1, by omega⟩, fun m2 q2 => ?_⟩
    have g2 := fun y (hy : CI y m1) => app_step hy (by omega) q2
    have s2 := g2 x s1.1
    refine vc_X10_feed_31 ⟨⟨h1, by omega⟩, fun m3 q3 => ?_⟩
    have g3 := fun y (hy : CI y m2) => app_step hy (by omega) q3
    have s3 := g3 x s2.1
    refine vc_X10_feed_39 ⟨⟨h1, by omega⟩, fun m4 q4 => ?_⟩
    have g4 := fun y (hy : CI y m3) => app_step hy (by omega) q4
    have s4 := g4 x s3.1
    refine vc_X10_feed_48 ⟨⟨h1, by omega⟩, fun m5 q5 => ?_⟩
    have g5 := fun y (hy : CI y m4) => app_step hy (by omega) q5
    have s5 := g5 x s4.1
    refine vc_X10_feed_57 (hR m5 _ ?_)
    unfold Q_X10_feed feedS
    rw [st_0, if_pos c1]
    exact ⟨fun y hy => (g5 y (g4 y (g3 y (g2 y (g1 y hy).1).1).1).1).1, by rw [s5.2.1, s4.2.1, s3.2.1, s2.2.1, s1.2.1], by show m5 1 2 = μ 1 2 + 20; omega, fun z hz => by rw [q5.2.2 z (by omega) (by omega), q4.2.2 z (by omega) (by omega), q3.2.2 z (by omega) (by omega), q2.2.2 z (by omega) (by omega), q1.2.2 z (by omega) (by omega)]⟩
  · unfold Q_X10_feed feedS
    rw [st_0, if_neg c1]
    exact ⟨fun _ h => h, rfl, rfl, fun _ _ => rfl⟩
theorem ct_X10_feed : Ct mX10_feed 1 22 0 0 (nrmS S_X10_feed) := by
  refine ct_vm (own := RX10) (by decide +kernel) rfl ?_ ?_
  · intro as μ Q hS
    unfold S_X10_feed at hS
    split at hS
    · exact Nat.le_of_ble_eq_true rfl
    · exact hS.elim
  · intro as μ R hS
    unfold S_X10_feed at hS
    split at hS
    · exact body_X10_feed hS.1 hS.2
    · exact hS.elim
