/-! what a call changes of one town -/
/-- a town with other walks and another diary -/
def setF (v : TV) (k8 : Int) (c9 c10 c11 : Int → Int) (k12 : Int) (c13 : Int → Int) : TV := fun f => match f with
  | 0 => v 0
  | 1 => v 1
  | 2 => v 2
  | 3 => v 3
  | 4 => v 4
  | 5 => v 5
  | 6 => v 6
  | 7 => v 7
  | 8 => fun _ => k8
  | 9 => c9
  | 10 => c10
  | 11 => c11
  | 12 => fun _ => k12
  | _ => c13
theorem setF_txt (v : TV) (k8 : Int) (c9 c10 c11 : Int → Int) (k12 : Int) (c13 : Int → Int) : txt (setF v k8 c9 c10 c11 k12 c13) = txt v := rfl
theorem setF_ok {v : TV} {k8 k12 : Int} {c9 c10 c11 c13 : Int → Int} (ok : TVok v) (h8 : 0 ≤ k8 ∧ k8 ≤ 8) (hw : ∀ w : Int, 0 ≤ w → w < k8 → (0 ≤ c9 w ∧ c9 w ≤ 16) ∧ (0 ≤ c10 w ∧ c10 w ≤ 99) ∧ ∀ i : Int, 0 ≤ i → i < c9 w → 0 ≤ c11 (16 * w + i) ∧ c11 (16 * w + i) < v 0 0) (h12 : 0 ≤ k12 ∧ k12 ≤ 7) (hd : ∀ i : Int, 0 ≤ i → i < k12 → 0 ≤ c13 i ∧ c13 i < v 0 0) : TVok (setF v k8 c9 c10 c11 k12 c13) :=
  ⟨ok.1, ok.2.1, ok.2.2.1, ok.2.2.2.1, ok.2.2.2.2.1, ok.2.2.2.2.2.1, ok.2.2.2.2.2.2.1, h8, hw, h12, hd⟩
theorem tv_set {μ m : Mem} {t : Int} (hk : ∀ k : Int, k ≤ 6 → m t k = μ t k) (h1 : m (t + 1) = μ (t + 1)) (h3 : m (t + 3) = μ (t + 3)) (h4 : m (t + 4) = μ (t + 4)) (h5 : m (t + 5) = μ (t + 5)) : tv m t = setF (tv μ t) (m t 12) (clip (m t 12) (m (t + 7))) (clip (m t 12) (m (t + 8))) (fun j => if 0 ≤ j ∧ j / 16 < m t 12 ∧ j % 16 < m (t + 7) (j / 16) then m (t + 6) j else 0) (m t 16) (clip (m t 16) (m (t + 9))) := by
  have q1 := hk 1 (by omega)
  have q2 := hk 2 (by omega)
  have q5 := hk 5 (by omega)
  have q6 := hk 6 (by omega)
  funext f
  match f with
  | 0 => show (fun _ => m t 1) = (fun _ => μ t 1); rw [q1]
  | 1 => show (fun _ => m t 2) = (fun _ => μ t 2); rw [q2]
  | 2 => show (fun _ => m t 5) = (fun _ => μ t 5); rw [q5]
  | 3 => show (fun _ => m t 6) = (fun _ => μ t 6); rw [q6]
  | 4 => show clip 8 (m (t + 3)) = clip 8 (μ (t + 3)); rw [h3]
  | 5 => show clip 8 (m (t + 4)) = clip 8 (μ (t + 4)); rw [h4]
  | 6 => show clip 8 (m (t + 5)) = clip 8 (μ (t + 5)); rw [h5]
  | 7 => show clip 64 (m (t + 1)) = clip 64 (μ (t + 1)); rw [h1]
  | 8 => rfl
  | 9 => rfl
  | 10 => rfl
  | 11 => rfl
  | 12 => rfl
  | n + 13 => rfl
theorem TR_txt {μ m : Mem} {t : Int} (h : TR μ t) (ok : TVok (tv m t)) (hx : txt (tv m t) = txt (tv μ t)) (h2 : m (t + 2) = μ (t + 2)) (h3 : m t 3 = μ t 3) (h4 : m t 4 = μ t 4) : TR m t := by
  obtain ⟨g1, g2, g3, g4, g5, g6⟩ := h
  have ep : tv m t 0 0 = tv μ t 0 0 := congrFun (congrFun hx 0) 0
  have ew : wayV (tv m t) = wayV (tv μ t) := by
    rw [show wayV (tv m t) = wayV (txt (tv m t)) from rfl, hx]; rfl
  refine ⟨⟨g1.1, ok⟩, fun a b a0 a1 b0 b1 => ?_, ?_, ?_, ?_, ?_⟩
  · rw [h2, ew]
    rw [ep] at a1 b1
    exact g2 a b a0 a1 b0 b1
  · rw [show joined (tv m t) = joined (txt (tv m t)) from rfl, hx]; exact g3
  · rw [show calm (tv m t) = calm (txt (tv m t)) from rfl, hx]; exact g4
  · rw [h3, show sm (tv m t 4) (tv m t 0 0) = sm (txt (tv m t) 4) (txt (tv m t) 0 0) from rfl, hx]; exact g5
  · rw [h4, show cellV (tv m t) = cellV (txt (tv m t)) from rfl, hx]; exact g6
theorem CI_town {c n t : Int} {μ m : Mem} (h : CI c μ) (hn : 0 ≤ n ∧ n < μ 1 5 ∧ n < 3) (ht : t = 4 + 10 * n) (hf : ∀ z : Int, (z < t ∨ t + 9 < z) → m z = μ z) (ok : TVok (tv m t)) (hx : txt (tv m t) = txt (tv μ t)) (h0 : m t 0 = μ t 0) (h2 : m (t + 2) = μ (t + 2)) (h3 : m t 3 = μ t 3) (h4 : m t 4 = μ t 4) : CI c m := by
  obtain ⟨Mk, hc, hm, hw, hb, hi, g1, g2, n1, o1⟩ := h
  have e0 : m 0 = μ 0 := hf 0 (by omega)
  refine ⟨Mk, hc, by rw [e0]; exact hm, ?_, by unfold BY; rw [hf 2 (by omega)]; exact hb, fun k k0 k1 => ?_, GInv_frame g1 (fun z z0 z1 => hf z (by omega)), GInv_frame g2 (fun z z0 z1 => hf z (by omega)), NC_frame n1 e0 (hf 186 (by omega)) (hf 192 (by omega)), OC_frame o1 e0 (hf 178 (by omega))⟩
  · obtain ⟨w1, w2, w3, w4, w5, w6⟩ := hw
    unfold WI
    rw [hf 1 (by omega)]
    refine ⟨w1, w2, w3, w4, w5, fun i i0 i1 => ?_⟩
    by_cases q : i = n
    · subst q
      have e : (1 : Int) + 3 + 10 * i = t := by omega
      have g := w6 i i0 i1
      rw [e] at g ⊢
      obtain ⟨tr, a, b, cc⟩ := g
      have e2 : m t 2 = μ t 2 := congrFun (congrFun hx 1) 0
      exact ⟨TR_txt tr ok hx h2 h3 h4, by rw [e2]; exact a, by rw [h0, e0]; exact b, by rw [h0, hx]; exact cc⟩
    · exact TG_frame (w6 i i0 i1) (fun z z0 z1 => hf z (by omega)) (by rw [e0])
  · have q := hi k k0 k1
    rw [hf 134 (by omega)]
    exact ⟨q.1, by unfold BY; rw [hf (36 + 33 * k) (by omega)]; exact q.2.1, fun e => WI_frame (q.2.2 e) (fun z z0 z1 => hf z (by omega)) (by rw [e0])⟩
/-- a change of one town -/
def setT (s : STt) (n : Int) (v : TV) : STt := ((s.1.1, s.1.2.1, fun i => if i = n then v else s.1.2.2 i), s.2)
def chgT (s : STt) (n d : Int) (p : TV → Bool) (f : TV → TV) (r : TV → Int) : STt × Int := if (0 ≤ n ∧ n < s.1.2.1 3) ∧ p (s.1.2.2 n) = true then (setT s n (f (s.1.2.2 n)), r (s.1.2.2 n)) else (s, d)
def Chg (x : STt × Int) (μ μ' : Mem) (r : Int) : Prop := (∀ c, CI c μ → CI c μ') ∧ stC μ' = x.1 ∧ r = x.2
theorem stC_town {c n t : Int} {μ m : Mem} (h : CI c μ) (hn : 0 ≤ n ∧ n < μ 1 5 ∧ n < 3) (ht : t = 4 + 10 * n) (hf : ∀ z : Int, (z < t ∨ t + 9 < z) → m z = μ z) : stC m = setT (stC μ) n (tv m t) := by
  obtain ⟨Mk, hc, hm, hw, hb, hi, g1, g2, n1, o1⟩ := h
  unfold stC setT
  refine Prod.ext ?_ (Prod.ext ?_ ?_)
  · show wvC m 1 = _
    unfold wvC
    rw [hf 1 (by omega), hf (1 + 1) (by omega)]
    refine Prod.ext rfl (Prod.ext rfl ?_)
    funext i
    show (if 0 ≤ i ∧ i < μ 1 5 then tv m (1 + 3 + 10 * i) else tv0) = if i = n then tv m t else if 0 ≤ i ∧ i < μ 1 5 then tv μ (1 + 3 + 10 * i) else tv0
    by_cases q : i = n
    · subst q
      have e : (1 : Int) + 3 + 10 * i = t := by omega
      rw [if_pos (by omega), if_pos rfl, e]
    · rw [if_neg q]
      by_cases c : 0 ≤ i ∧ i < μ 1 5
      · rw [if_pos c, if_pos c]
        exact tv_frame fun z z0 z1 => hf z (by omega)
      · rw [if_neg c, if_neg c]
  · show clip 3 (m 134) = clip 3 (μ 134)
    rw [hf 134 (by omega)]
  · funext k
    show (if 0 ≤ k ∧ k < 3 ∧ m 134 k = 1 then wvC m (35 + 33 * k) else wv0) = if 0 ≤ k ∧ k < 3 ∧ μ 134 k = 1 then wvC μ (35 + 33 * k) else wv0
    rw [hf 134 (by omega)]
    by_cases q : 0 ≤ k ∧ k < 3 ∧ μ 134 k = 1
    · rw [if_pos q, if_pos q, wvC_frame ((hi k q.1 q.2.1).2.2 q.2.2) (fun z z0 z1 => hf z (by omega))]
    · rw [if_neg q, if_neg q]
theorem st_3 (μ : Mem) : (stC μ).1.2.1 3 = μ 1 5 := (clip_in (n := 9) (j := 3) (f := fun f => μ 1 (f + 2)) (by omega) (by omega) : clip 9 (fun f => μ 1 (f + 2)) 3 = μ 1 (3 + 2))
theorem st_t {μ : Mem} {n t : Int} (hn : 0 ≤ n ∧ n < μ 1 5) (ht : t = 4 + 10 * n) : (stC μ).1.2.2 n = tv μ t := by
  have e : (1 : Int) + 3 + 10 * n = t := by omega
  show (if 0 ≤ n ∧ n < μ 1 5 then tv μ (1 + 3 + 10 * n) else tv0) = tv μ t
  rw [if_pos hn, e]
theorem chg_no {μ : Mem} {n d : Int} {p : TV → Bool} {f : TV → TV} {r : TV → Int} (hn : ¬ (0 ≤ n ∧ n < μ 1 5)) : Chg (chgT (stC μ) n d p f r) μ μ d := by
  unfold chgT
  rw [if_neg (fun q => hn (by rw [st_3] at q; exact q.1))]
  exact ⟨fun _ h => h, rfl, rfl⟩
theorem chg_p0 {μ : Mem} {n t d : Int} {p : TV → Bool} {f : TV → TV} {r : TV → Int} (hn : 0 ≤ n ∧ n < μ 1 5 ∧ n < 3) (ht : t = 4 + 10 * n) (hp : p (tv μ t) = false) : Chg (chgT (stC μ) n d p f r) μ μ d := by
  unfold chgT
  rw [if_neg (fun q => by rw [st_t ⟨hn.1, hn.2.1⟩ ht, hp] at q; exact absurd q.2 (by decide))]
  exact ⟨fun _ h => h, rfl, rfl⟩
theorem chg_yes {c n t d x : Int} {μ m : Mem} {p : TV → Bool} {f : TV → TV} {r : TV → Int} (h : CI c μ) (hn : 0 ≤ n ∧ n < μ 1 5 ∧ n < 3) (ht : t = 4 + 10 * n) (hp : p (tv μ t) = true) (hf : ∀ z : Int, (z < t ∨ t + 9 < z) → m z = μ z) (ok : TVok (f (tv μ t))) (hx : txt (f (tv μ t)) = txt (tv μ t)) (e : tv m t = f (tv μ t)) (h0 : m t 0 = μ t 0) (h2 : m (t + 2) = μ (t + 2)) (h3 : m t 3 = μ t 3) (h4 : m t 4 = μ t 4) (hr : x = r (tv μ t)) : Chg (chgT (stC μ) n d p f r) μ m x := by
  unfold chgT
  rw [st_t ⟨hn.1, hn.2.1⟩ ht, if_pos ⟨by rw [st_3]; exact ⟨hn.1, hn.2.1⟩, hp⟩]
  exact ⟨fun c h => CI_town h hn ht hf (by rw [e]; exact ok) (by rw [e]; exact hx) h0 h2 h3 h4, by rw [stC_town h hn ht hf, e], hr⟩
def forgetF (v : TV) : TV := setF v (v 8 0) (v 9) (v 10) (v 11) 0 (fun _ => 0)
def P_X10_forget (o n : Int) (μ : Mem) : Prop := o = 0 ∧ (∃ c, CI c μ) ∧ r32 n
def Q_X10_forget (_ n : Int) (μ μ' : Mem) (r : Int) : Prop := Chg (chgT (stC μ) n 0 (fun v => decide (v 12 0 ≠ 0)) forgetF (fun _ => 1)) μ μ' r
def S_X10_forget : S0t := fun as μ Q => match as with
  | [(2, x0), (0, x1)] => P_X10_forget x0 x1 μ ∧ ∀ (μ' : Mem) (r : Int), Q_X10_forget x0 x1 μ μ' r → Q μ' (some (kI r))
  | _ => False
theorem mono_X10_forget : Mono S_X10_forget := by
  intro as μ Q Q' h hS
  unfold S_X10_forget at hS ⊢
  split at hS
  · exact ⟨hS.1, fun μ' r q => h _ _ (hS.2 _ _ q)⟩
  · exact hS.elim
def iX10_forget : Inf := (kX10_forget, fTX10, pTX10, cTX10, lTX10, sTX10, [(110, 0, 1, 9, S_X9_townAt)])
theorem ok_X10_forget : infOK iX10_forget mX10_forget RX10 1 21 := ⟨kkX10_forget, fTX10_ok, pTX10_ok _, cTX10_ok, lTX10_ok, sTX10_ok, c_cons ⟨mX9_townAt, 0, 0, ct_X9_townAt, mmX9_townAt, vvX9_townAt, lkX10_110, ⟨by decide, by decide⟩, ⟨_, _, rfl⟩, by decide, mono_X9_townAt⟩ (c_nil)⟩
theorem mt_X10_forget : mtOK [] RX10 1 21 := mt_nil
abbrev V_X10_forget (R : Mem → Option AV → Prop) (pc : Nat) (lc : List (Nat × AV)) (μ : Mem) : Prop := VM mX10_forget RX10 1 21 R pc lc [] μ
set_option maxRecDepth 20000 in
theorem vc_X10_forget_0 {R : Mem → Option AV → Prop} {n : Int} {μ : Mem} (H : P_X9_townAt 1 n μ ∧ (∀ (rv2 : Int), Q_X9_townAt 1 n μ rv2 → (rv2 < 0 → R μ (some (kI 0))) ∧ (¬ rv2 < 0 → r32 (μ rv2 16) ∧ ((¬ (μ rv2 16) = 0) → V_X10_forget R 27 [] (updm μ rv2 16 0)) ∧ (¬ (¬ (μ rv2 16) = 0) → R μ (some (kI 0)))))) : V_X10_forget R 0 [(0, kR 0), (1, kI n)] μ := by
  refine vm_step2 mt_X10_forget ok_X10_forget [(27, [])] 1000 ?_
  show isC 0 10 ∧ isC 1 9 ∧ P_X9_townAt 1 n μ ∧ (∀ (rv2 : Int), Q_X9_townAt 1 n μ rv2 → (rv2 < 0 → (0 ≤ (0 : Int) ∧ (0 : Int) ≤ 1) ∧ R μ (some (kI 0))) ∧ (¬ rv2 < 0 → isC rv2 7 ∧ r32 (μ rv2 16) ∧ ((¬ (μ rv2 16) = 0) → isC rv2 7 ∧ 0 = 0 ∧ True ∧ V_X10_forget R 27 [] (updm μ rv2 16 0)) ∧ (¬ (¬ (μ rv2 16) = 0) → (0 ≤ (0 : Int) ∧ (0 : Int) ≤ 1) ∧ R μ (some (kI 0)))))
  exact ⟨c_0, ⟨c_1, H.1, fun rv2 hq3 => ⟨fun hz5 => ⟨⟨by omega, by omega⟩, ((H.2 rv2 hq3).1 hz5)⟩, fun hz5 => have h_rv2 := hq3.2.2 hz5; ⟨isT_C h_rv2, ⟨((H.2 rv2 hq3).2 hz5).1, fun hc4 => ⟨isT_C h_rv2, rfl, trivial, (((H.2 rv2 hq3).2 hz5).2.1 hc4)⟩, fun hc4 => ⟨⟨by omega, by omega⟩, (((H.2 rv2 hq3).2 hz5).2.2 hc4)⟩⟩⟩⟩⟩⟩
set_option maxRecDepth 20000 in
theorem vc_X10_forget_27 {R : Mem → Option AV → Prop} {μ : Mem} (H : R μ (some (kI 1))) : V_X10_forget R 27 [] μ := by
  refine vm_step2 mt_X10_forget ok_X10_forget [(27, [])] 1000 ?_
  show (0 ≤ (1 : Int) ∧ (1 : Int) ≤ 1) ∧ R μ (some (kI 1))
  exact ⟨⟨by omega, by omega⟩, H⟩
theorem body_X10_forget {o n : Int} {μ : Mem} {R : Mem → Option AV → Prop} (h : P_X10_forget o n μ) (hR : ∀ (μ' : Mem) (r : Int), Q_X10_forget o n μ μ' r → R μ' (some (kI r))) : V_X10_forget R 0 [(0, kR o), (1, kI n)] μ := by
  obtain ⟨rfl, ⟨c, hc⟩, r_n⟩ := h
  obtain ⟨pt, hat⟩ := town_at hc r_n
  refine vc_X10_forget_0 ⟨pt, fun t q => ?_⟩
  rcases hat t q with ⟨hneg, hno⟩ | ⟨hpos, hn, ht, hr, hl, hm⟩
  · exact ⟨fun _ => hR μ _ (chg_no hno), fun q => absurd hneg q⟩
  · have ok := hr.1.2
    have hw8 : 0 ≤ μ t 12 ∧ μ t 12 ≤ 8 := ok.2.2.2.2.2.2.2.1
    have hdd : 0 ≤ μ t 16 ∧ μ t 16 ≤ 7 := ok.2.2.2.2.2.2.2.2.2.1
    refine ⟨fun q => absurd q hpos, fun _ => ⟨rr (by omega), fun c1 => vc_X10_forget_27 ?_, fun c1 => ?_⟩⟩
    · obtain ⟨m, em⟩ : ∃ m, m = updm μ t 16 0 := ⟨_, rfl⟩
      rw [← em]
      have fo : ∀ z : Int, z ≠ t → m z = μ z := fun z hz => by rw [em, ru_ne hz]
      have fk : ∀ k : Int, k ≠ 16 → m t k = μ t k := fun k hk => by rw [em, ru_eq, r1_ne hk]
      have f16 : m t 16 = 0 := by rw [em, ru_eq, r1_eq]
      refine hR m 1 (chg_yes hc hn ht (decide_eq_true c1) (fun z hz => fo z (by omega)) (setF_ok ok ok.2.2.2.2.2.2.2.1 ok.2.2.2.2.2.2.2.2.1 (by omega) (fun i i0 i1 => absurd i1 (by omega))) rfl ?_ (fk 0 (by omega)) (fo _ (by omega)) (fk 3 (by omega)) (fk 4 (by omega)) rfl)
      rw [tv_set (μ := μ) (fun k hk => fk k (by omega)) (fo _ (by omega)) (fo _ (by omega)) (fo _ (by omega)) (fo _ (by omega)), fk 12 (by omega), f16, fo (t + 7) (by omega), fo (t + 8) (by omega), fo (t + 6) (by omega)]
      have e13 : clip 0 (m (t + 9)) = fun _ => 0 := by
        funext j
        exact if_neg (by omega)
      rw [e13]
      rfl
    · exact hR μ 0 (chg_p0 hn ht (decide_eq_false c1))
theorem ct_X10_forget : Ct mX10_forget 1 21 0 0 (nrmS S_X10_forget) := by
  refine ct_vm (own := RX10) (by decide +kernel) rfl ?_ ?_
  · intro as μ Q hS
    unfold S_X10_forget at hS
    split at hS
    · exact Nat.le_of_ble_eq_true rfl
    · exact hS.elim
  · intro as μ R hS
    unfold S_X10_forget at hS
    split at hS
    · exact body_X10_forget hS.1 hS.2
    · exact hS.elim
