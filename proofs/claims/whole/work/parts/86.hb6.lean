/-! what a call changes of one town -/
/-- a town with other walks and another diary -/
def setF (v : TV) (k8 : Int) (c9 c10 c11 : Int → Int) (k12 : Int) (c13 : Int → Int) : TV := fun f => match f with
  | 0 => v 0
  | 1 => v 1
  | 2 => v 2
  | 3 => v 3
  | 4 => v 4
  | 5 => v 5
  | 6 => v 6
  | 7 => v 7
  | 8 => fun _ => k8
  | 9 => c9
  | 10 => c10
  | 11 => c11
  | 12 => fun _ => k12
  | _ => c13
theorem setF_txt (v : TV) (k8 : Int) (c9 c10 c11 : Int → Int) (k12 : Int) (c13 : Int → Int) : txt (setF v k8 c9 c10 c11 k12 c13) = txt v := rfl
theorem setF_ok {v : TV} {k8 k12 : Int} {c9 c10 c11 c13 : Int → Int} (ok : TVok v) (h8 : 0 ≤ k8 ∧ k8 ≤ 8) (hw : ∀ w : Int, 0 ≤ w → w < k8 → (0 ≤ c9 w ∧ c9 w ≤ 16) ∧ (0 ≤ c10 w ∧ c10 w ≤ 99) ∧ ∀ i : Int, 0 ≤ i → i < c9 w → 0 ≤ c11 (16 * w + i) ∧ c11 (16 * w + i) < v 0 0) (h12 : 0 ≤ k12 ∧ k12 ≤ 7) (hd : ∀ i : Int, 0 ≤ i → i < k12 → 0 ≤ c13 i ∧ c13 i < v 0 0) : TVok (setF v k8 c9 c10 c11 k12 c13) :=
  ⟨ok.1, ok.2.1, ok.2.2.1, ok.2.2.2.1, ok.2.2.2.2.1, ok.2.2.2.2.2.1, ok.2.2.2.2.2.2.1, h8, hw, h12, hd⟩
theorem tv_set {μ m : Mem} {t : Int} (hk : ∀ k : Int, k ≤ 6 → m t k = μ t k) (h1 : m (t + 1) = μ (t + 1)) (h3 : m (t + 3) = μ (t + 3)) (h4 : m (t + 4) = μ (t + 4)) (h5 : m (t + 5) = μ (t + 5)) : tv m t = setF (tv μ t) (m t 12) (clip (m t 12) (m (t + 7))) (clip (m t 12) (m (t + 8))) (fun j => if 0 ≤ j ∧ j / 16 < m t 12 ∧ j % 16 < m (t + 7) (j / 16) then m (t + 6) j else 0) (m t 16) (clip (m t 16) (m (t + 9))) := by
  have q1 := hk 1 (by omega)
  have q2 := hk 2 (by omega)
  have q5 := hk 5 (by omega)
  have q6 := hk 6 (by omega)
  funext f
  match f with
  | 0 => show (fun _ => m t 1) = (fun _ => μ t 1); rw [q1]
  | 1 => show (fun _ => m t 2) = (fun _ => μ t 2); rw [q2]
  | 2 => show (fun _ => m t 5) = (fun _ => μ t 5); rw [q5]
  | 3 => show (fun _ => m t 6) = (fun _ => μ t 6); rw [q6]
  | 4 => show clip 8 (m (t + 3)) = clip 8 (μ (t + 3)); rw [h3]
  | 5 => show clip 8 (m (t + 4)) = clip 8 (μ (t + 4)); rw [h4]
  | 6 => show clip 8 (m (t + 5)) = clip 8 (μ (t + 5)); rw [h5]
  | 7 => show clip 64 (m (t + 1)) = clip 64 (μ (t + 1)); rw [h1]
  | 8 => rfl
  | 9 => rfl
  | 10 => rfl
  | 11 => rfl
  | 12 => rfl
  | n + 13 => rfl
theorem TR_txt {μ m : Mem} {t : Int} (h : TR μ t) (ok : TVok (tv m t)) (hx : txt (tv m t) = txt (tv μ t)) (h2 : m (t + 2) = μ (t + 2)) (h3 : m t 3 = μ t 3) (h4 : m t 4 = μ t 4) : TR m t := by
  obtain ⟨g1, g2, g3, g4, g5, g6⟩ := h
  have ep : tv m t 0 0 = tv μ t 0 0 := congrFun (congrFun hx 0) 0
  have ew : wayV (tv m t) = wayV (tv μ t) := by
    rw [show wayV (tv m t) = wayV (txt (tv m t)) from rfl, hx]; rfl
  refine ⟨⟨g1.1, ok⟩, fun a b a0 a1 b0 b1 => ?_, ?_, ?_, ?_, ?_⟩
  · rw [h2, ew]
    rw [ep] at a1 b1
    exact g2 a b a0 a1 b0 b1
  · rw [show joined (tv m t) = joined (txt (tv m t)) from rfl, hx]; exact g3
  · rw [show calm (tv m t) = calm (txt (tv m t)) from rfl, hx]; exact g4
  · rw [h3, show sm (tv m t 4) (tv m t 0 0) = sm (txt (tv m t) 4) (txt (tv m t) 0 0) from rfl, hx]; exact g5
  · rw [h4, show cellV (tv m t) = cellV (txt (tv m t)) from rfl, hx]; exact g6
theorem CI_town {c n t : Int} {μ m : Mem} (h : CI c μ) (hn : 0 ≤ n ∧ n < μ 1 5 ∧ n < 3) (ht : t = 4 + 10 * n) (hf : ∀ z : Int, (z < t ∨ t + 9 < z) → m z = μ z) (ok : TVok (tv m t)) (hx : txt (tv m t) = txt (tv μ t)) (h0 : m t 0 = μ t 0) (h2 : m (t + 2) = μ (t + 2)) (h3 : m t 3 = μ t 3) (h4 : m t 4 = μ t 4) : CI c m := by
  obtain ⟨Mk, hc, hm, hw, hb, hi, g1, g2, n1, o1⟩ := h
  have e0 : m 0 = μ 0 := hf 0 (by omega)
  refine ⟨Mk, hc, by rw [e0]; exact hm, ?_, by unfold BY; rw [hf 2 (by omega)]; exact hb, fun k k0 k1 => ?_, GInv_frame g1 (fun z z0 z1 => hf z (by omega)), GInv_frame g2 (fun z z0 z1 => hf z (by omega)), NC_frame n1 e0 (hf 186 (by omega)) (hf 192 (by omega)), OC_frame o1 e0 (hf 178 (by omega))⟩
  · obtain ⟨w1, w2, w3, w4, w5, w6⟩ := hw
    unfold WI
    rw [hf 1 (by omega)]
    refine ⟨w1, w2, w3, w4, w5, fun i i0 i1 => ?_⟩
    by_cases q : i = n
    · subst q
      have e : (1 : Int) + 3 + 10 * i = t := by omega
      have g := w6 i i0 i1
      rw [e] at g ⊢
      obtain ⟨tr, a, b, cc⟩ := g
      have e2 : m t 2 = μ t 2 := congrFun (congrFun hx 1) 0
      exact ⟨TR_txt tr ok hx h2 h3 h4, by rw [e2]; exact a, by rw [h0, e0]; exact b, by rw [h0, hx]; exact cc⟩
    · exact TG_frame (w6 i i0 i1) (fun z z0 z1 => hf z (by omega)) (by rw [e0])
  · have q := hi k k0 k1
    rw [hf 134 (by omega)]
    exact ⟨q.1, by unfold BY; rw [hf (36 + 33 * k) (by omega)]; exact q.2.1, fun e => WI_frame (q.2.2 e) (fun z z0 z1 => hf z (by omega)) (by rw [e0])⟩
/-- a change of one town -/
def setT (s : STt) (n : Int) (v : TV) : STt := ((s.1.1, s.1.2.1, fun i => if i = n then v else s.1.2.2 i), s.2)
def chgT (s : STt) (n d : Int) (p : TV → Bool) (f : TV → TV) (r : TV → Int) : STt × Int := if (0 ≤ n ∧ n < s.1.2.1 3) ∧ p (s.1.2.2 n) = true then (setT s n (f (s.1.2.2 n)), r (s.1.2.2 n)) else (s, d)
def Chg (x : STt × Int) (μ μ' : Mem) (r : Int) : Prop := (∀ c, CI c μ → CI c μ') ∧ stC μ' = x.1 ∧ r = x.2 ∧ ∀ z : Int, 201 ≤ z → μ' z = μ z
theorem stC_town {c n t : Int} {μ m : Mem} (h : CI c μ) (hn : 0 ≤ n ∧ n < μ 1 5 ∧ n < 3) (ht : t = 4 + 10 * n) (hf : ∀ z : Int, (z < t ∨ t + 9 < z) → m z = μ z) : stC m = setT (stC μ) n (tv m t) := by
  obtain ⟨Mk, hc, hm, hw, hb, hi, g1, g2, n1, o1⟩ := h
  unfold stC setT
  refine Prod.ext ?_ (Prod.ext ?_ ?_)
  · show wvC m 1 = _
    unfold wvC
    rw [hf 1 (by omega), hf (1 + 1) (by omega)]
    refine Prod.ext rfl (Prod.ext rfl ?_)
    funext i
    show (if 0 ≤ i ∧ i < μ 1 5 then tv m (1 + 3 + 10 * i) else tv0) = if i = n then tv m t else if 0 ≤ i ∧ i < μ 1 5 then tv μ (1 + 3 + 10 * i) else tv0
    by_cases q : i = n
    · subst q
      have e : (1 : Int) + 3 + 10 * i = t := by omega
      rw [if_pos (by omega), if_pos rfl, e]
    · rw [if_neg q]
      by_cases c : 0 ≤ i ∧ i < μ 1 5
      · rw [if_pos c, if_pos c]
        exact tv_frame fun z z0 z1 => hf z (by omega)
      · rw [if_neg c, if_neg c]
  · show clip 3 (m 134) = clip 3 (μ 134)
    rw [hf 134 (by omega)]
  · funext k
    show (if 0 ≤ k ∧ k < 3 ∧ m 134 k = 1 then wvC m (35 + 33 * k) else wv0) = if 0 ≤ k ∧ k < 3 ∧ μ 134 k = 1 then wvC μ (35 + 33 * k) else wv0
    rw [hf 134 (by omega)]
    by_cases q : 0 ≤ k ∧ k < 3 ∧ μ 134 k = 1
    · rw [if_pos q, if_pos q, wvC_frame ((hi k q.1 q.2.1).2.2 q.2.2) (fun z z0 z1 => hf z (by omega))]
    · rw [if_neg q, if_neg q]
theorem st_3 (μ : Mem) : (stC μ).1.2.1 3 = μ 1 5 := (clip_in (n := 9) (j := 3) (f := fun f => μ 1 (f + 2)) (by omega) (by omega) : clip 9 (fun f => μ 1 (f + 2)) 3 = μ 1 (3 + 2))
theorem st_t {μ : Mem} {n t : Int} (hn : 0 ≤ n ∧ n < μ 1 5) (ht : t = 4 + 10 * n) : (stC μ).1.2.2 n = tv μ t := by
  have e : (1 : Int) + 3 + 10 * n = t := by omega
  show (if 0 ≤ n ∧ n < μ 1 5 then tv μ (1 + 3 + 10 * n) else tv0) = tv μ t
  rw [if_pos hn, e]
theorem chg_no {μ : Mem} {n d : Int} {p : TV → Bool} {f : TV → TV} {r : TV → Int} (hn : ¬ (0 ≤ n ∧ n < μ 1 5)) : Chg (chgT (stC μ) n d p f r) μ μ d := by
  unfold chgT
  rw [if_neg (fun q => hn (by rw [st_3] at q; exact q.1))]
  exact ⟨fun _ h => h, rfl, rfl, fun _ _ => rfl⟩
theorem chg_p0 {μ : Mem} {n t d : Int} {p : TV → Bool} {f : TV → TV} {r : TV → Int} (hn : 0 ≤ n ∧ n < μ 1 5 ∧ n < 3) (ht : t = 4 + 10 * n) (hp : p (tv μ t) = false) : Chg (chgT (stC μ) n d p f r) μ μ d := by
  unfold chgT
  rw [if_neg (fun q => by rw [st_t ⟨hn.1, hn.2.1⟩ ht, hp] at q; exact absurd q.2 (by decide))]
  exact ⟨fun _ h => h, rfl, rfl, fun _ _ => rfl⟩
theorem chg_yes {c n t d x : Int} {μ m : Mem} {p : TV → Bool} {f : TV → TV} {r : TV → Int} (h : CI c μ) (hn : 0 ≤ n ∧ n < μ 1 5 ∧ n < 3) (ht : t = 4 + 10 * n) (hp : p (tv μ t) = true) (hf : ∀ z : Int, (z < t ∨ t + 9 < z) → m z = μ z) (ok : TVok (f (tv μ t))) (hx : txt (f (tv μ t)) = txt (tv μ t)) (e : tv m t = f (tv μ t)) (h0 : m t 0 = μ t 0) (h2 : m (t + 2) = μ (t + 2)) (h3 : m t 3 = μ t 3) (h4 : m t 4 = μ t 4) (hr : x = r (tv μ t)) : Chg (chgT (stC μ) n d p f r) μ m x := by
  unfold chgT
  rw [st_t ⟨hn.1, hn.2.1⟩ ht, if_pos ⟨by rw [st_3]; exact ⟨hn.1, hn.2.1⟩, hp⟩]
  exact ⟨fun c h => CI_town h hn ht hf (by rw [e]; exact ok) (by rw [e]; exact hx) h0 h2 h3 h4, by rw [stC_town h hn ht hf, e], hr, fun z hz => hf z (by omega)⟩
def forgetF (v : TV) : TV := setF v (v 8 0) (v 9) (v 10) (v 11) 0 (fun _ => 0)
def P_X10_forget (o n : Int) (μ : Mem) : Prop := o = 0 ∧ (∃ c, CI c μ) ∧ r32 n
def Q_X10_forget (_ n : Int) (μ μ' : Mem) (r : Int) : Prop := Chg (chgT (stC μ) n 0 (fun v => decide (v 12 0 ≠ 0)) forgetF (fun _ => 1)) μ μ' r
def S_X10_forget : S0t := fun as μ Q => match as with
  | [(2, x0), (0, x1)] => P_X10_forget x0 x1 μ ∧ ∀ (μ' : Mem) (r : Int), Q_X10_forget x0 x1 μ μ' r → Q μ' (some (kI r))
  | _ => False
theorem mono_X10_forget : Mono S_X10_forget := by
  intro as μ Q Q' h hS
  unfold S_X10_forget at hS ⊢
  split at hS
  · exact ⟨hS.1, fun μ' r q => h _ _ (hS.2 _ _ q)⟩
  · exact hS.elim
def iX10_forget : Inf := (kX10_forget, fTX10, pTX10, cTX10, lTX10, sTX10, [(110, 0, 1, 9, S_X9_townAt)])
theorem ok_X10_forget : infOK iX10_forget mX10_forget RX10 1 21 := ⟨kkX10_forget, fTX10_ok, pTX10_ok _, cTX10_ok, lTX10_ok, sTX10_ok, c_cons ⟨mX9_townAt, 0, 0, ct_X9_townAt, mmX9_townAt, vvX9_townAt, lkX10_110, ⟨by decide, by decide⟩, ⟨_, _, rfl⟩, by decide, mono_X9_townAt⟩ (c_nil)⟩
theorem mt_X10_forget : mtOK [] RX10 1 21 := mt_nil
abbrev V_X10_forget (R : Mem → Option AV → Prop) (pc : Nat) (lc : List (Nat × AV)) (μ : Mem) : Prop := VM mX10_forget RX10 1 21 R pc lc [] μ
set_option maxRecDepth 20000 in
theorem vc_X10_forget_0 {R : Mem → Option AV → Prop} {n : Int} {μ : Mem} (H : P_X9_townAt 1 n μ ∧ (∀ (rv2 : Int), Q_X9_townAt 1 n μ rv2 → (rv2 < 0 → R μ (some (kI 0))) ∧ (¬ rv2 < 0 → r32 (μ rv2 16) ∧ ((¬ (μ rv2 16) = 0) → V_X10_forget R 27 [] (updm μ rv2 16 0)) ∧ (¬ (¬ (μ rv2 16) = 0) → R μ (some (kI 0)))))) : V_X10_forget R 0 [(0, kR 0), (1, kI n)] μ := by
  refine vm_step2 mt_X10_forget ok_X10_forget [(27, [])] 1000 ?_
  show isC 0 10 ∧ isC 1 9 ∧ P_X9_townAt 1 n μ ∧ (∀ (rv2 : Int), Q_X9_townAt 1 n μ rv2 → (rv2 < 0 → (0 ≤ (0 : Int) ∧ (0 : Int) ≤ 1) ∧ R μ (some (kI 0))) ∧ (¬ rv2 < 0 → isC rv2 7 ∧ r32 (μ rv2 16) ∧ ((¬ (μ rv2 16) = 0) → isC rv2 7 ∧ 0 = 0 ∧ True ∧ V_X10_forget R 27 [] (updm μ rv2 16 0)) ∧ (¬ (¬ (μ rv2 16) = 0) → (0 ≤ (0 : Int) ∧ (0 : Int) ≤ 1) ∧ R μ (some (kI 0)))))
  exact ⟨c_0, ⟨c_1, H.1, fun rv2 hq3 => ⟨fun hz5 => ⟨⟨by omega, by omega⟩, ((H.2 rv2 hq3).1 hz5)⟩, fun hz5 => have h_rv2 := hq3.2.2 hz5; ⟨isT_C h_rv2, ⟨((H.2 rv2 hq3).2 hz5).1, fun hc4 => ⟨isT_C h_rv2, rfl, trivial, (((H.2 rv2 hq3).2 hz5).2.1 hc4)⟩, fun hc4 => ⟨⟨by omega, by omega⟩, (((H.2 rv2 hq3).2 hz5).2.2 hc4)⟩⟩⟩⟩⟩⟩
set_option maxRecDepth 20000 in
theorem vc_X10_forget_27 {R : Mem → Option AV → Prop} {μ : Mem} (H : R μ (some (kI 1))) : V_X10_forget R 27 [] μ := by
  refine vm_step2 mt_X10_forget ok_X10_forget [(27, [])] 1000 ?_
  show (0 ≤ (1 : Int) ∧ (1 : Int) ≤ 1) ∧ R μ (some (kI 1))
  exact ⟨⟨by omega, by omega⟩, H⟩
theorem body_X10_forget {o n : Int} {μ : Mem} {R : Mem → Option AV → Prop} (h : P_X10_forget o n μ) (hR : ∀ (μ' : Mem) (r : Int), Q_X10_forget o n μ μ' r → R μ' (some (kI r))) : V_X10_forget R 0 [(0, kR o), (1, kI n)] μ := by
  obtain ⟨rfl, ⟨c, hc⟩, r_n⟩ := h
  obtain ⟨pt, hat⟩ := town_at hc r_n
  refine vc_X10_forget_0 ⟨pt, fun t q => ?_⟩
  rcases hat t q with ⟨hneg, hno⟩ | ⟨hpos, hn, ht, hr, hl, hm⟩
  · exact ⟨fun _ => hR μ _ (chg_no hno), fun q => absurd hneg q⟩
  · have ok := hr.1.2
    have hw8 : 0 ≤ μ t 12 ∧ μ t 12 ≤ 8 := ok.2.2.2.2.2.2.2.1
    have hdd : 0 ≤ μ t 16 ∧ μ t 16 ≤ 7 := ok.2.2.2.2.2.2.2.2.2.1
    refine ⟨fun q => absurd q hpos, fun _ => ⟨rr (by omega), fun c1 => vc_X10_forget_27 ?_, fun c1 => ?_⟩⟩
    · obtain ⟨m, em⟩ : ∃ m, m = updm μ t 16 0 := ⟨_, rfl⟩
      rw [← em]
      have fo : ∀ z : Int, z ≠ t → m z = μ z := fun z hz => by rw [em, ru_ne hz]
      have fk : ∀ k : Int, k ≠ 16 → m t k = μ t k := fun k hk => by rw [em, ru_eq, r1_ne hk]
      have f16 : m t 16 = 0 := by rw [em, ru_eq, r1_eq]
      refine hR m 1 (chg_yes hc hn ht (decide_eq_true c1) (fun z hz => fo z (by omega)) (setF_ok ok ok.2.2.2.2.2.2.2.1 ok.2.2.2.2.2.2.2.2.1 (by omega) (fun i i0 i1 => absurd i1 (by omega))) rfl ?_ (fk 0 (by omega)) (fo _ (by omega)) (fk 3 (by omega)) (fk 4 (by omega)) rfl)
      rw [tv_set (μ := μ) (fun k hk => fk k (by omega)) (fo _ (by omega)) (fo _ (by omega)) (fo _ (by omega)) (fo _ (by omega)), fk 12 (by omega), f16, fo (t + 7) (by omega), fo (t + 8) (by omega), fo (t + 6) (by omega)]
      have e13 : clip 0 (m (t + 9)) = fun _ => 0 := by
        funext j
        exact if_neg (by omega)
      rw [e13]
      rfl
    · exact hR μ 0 (chg_p0 hn ht (decide_eq_false c1))
theorem ct_X10_forget : Ct mX10_forget 1 21 0 0 (nrmS S_X10_forget) := by
  refine ct_vm (own := RX10) (by decide +kernel) rfl ?_ ?_
  · intro as μ Q hS
    unfold S_X10_forget at hS
    split at hS
    · exact Nat.le_of_ble_eq_true rfl
    · exact hS.elim
  · intro as μ R hS
    unfold S_X10_forget at hS
    split at hS
    · exact body_X10_forget hS.1 hS.2
    · exact hS.elim
theorem clip_upd_s {g : Int → Int} {k b : Int} (k0 : 0 ≤ k) : clip (k + 1) (upd1 g k b) = upd1 (clip k g) k b := by
  funext j
  by_cases q : j = k
  · rw [q, clip_in k0 (by omega), r1_eq, r1_eq]
  · rw [r1_ne q]
    unfold clip
    rw [r1_ne q]
    by_cases c : 0 ≤ j ∧ j < k
    · rw [if_pos c, if_pos (by omega)]
    · rw [if_neg c, if_neg (by omega)]
def weighF (a b : Int) (v : TV) : TV := setF v (v 8 0) (v 9) (upd1 (v 10) a b) (v 11) (v 12 0) (v 13)
def P_X10_weigh (o n a b : Int) (μ : Mem) : Prop := o = 0 ∧ (∃ c, CI c μ) ∧ r32 n ∧ r32 a ∧ r32 b
def Q_X10_weigh (_ n a b : Int) (μ μ' : Mem) (r : Int) : Prop := Chg (chgT (stC μ) n (0) (fun v => decide ((0 ≤ a ∧ a < v 8 0) ∧ 0 ≤ b ∧ b ≤ 99)) (weighF a b) (fun v => 1)) μ μ' r
def S_X10_weigh : S0t := fun as μ Q => match as with
  | [(2, x0), (0, x1), (0, x2), (0, x3)] => P_X10_weigh x0 x1 x2 x3 μ ∧ ∀ (μ' : Mem) (r : Int), Q_X10_weigh x0 x1 x2 x3 μ μ' r → Q μ' (some (kI r))
  | _ => False
theorem mono_X10_weigh : Mono S_X10_weigh := by
  intro as μ Q Q' h hS
  unfold S_X10_weigh at hS ⊢
  split at hS
  · exact ⟨hS.1, fun μ' r q => h _ _ (hS.2 _ _ q)⟩
  · exact hS.elim
def iX10_weigh : Inf := (kX10_weigh, fTX10, pTX10, cTX10, lTX10, sTX10, [(110, 0, 1, 9, S_X9_townAt), (157, 0, 1, 7, S_X7_hasWalk)])
theorem ok_X10_weigh : infOK iX10_weigh mX10_weigh RX10 1 21 := ⟨kkX10_weigh, fTX10_ok, pTX10_ok _, cTX10_ok, lTX10_ok, sTX10_ok, c_cons ⟨mX9_townAt, 0, 0, ct_X9_townAt, mmX9_townAt, vvX9_townAt, lkX10_110, ⟨by decide, by decide⟩, ⟨_, _, rfl⟩, by decide, mono_X9_townAt⟩ (c_cons ⟨mX7_hasWalk, 0, 0, ct_X7_hasWalk, mmX7_hasWalk, vvX7_hasWalk, lkX10_157, ⟨by decide, by decide⟩, ⟨_, _, rfl⟩, by decide, mono_X7_hasWalk⟩ (c_nil))⟩
theorem mt_X10_weigh : mtOK [] RX10 1 21 := mt_nil
abbrev V_X10_weigh (R : Mem → Option AV → Prop) (pc : Nat) (lc : List (Nat × AV)) (μ : Mem) : Prop := VM mX10_weigh RX10 1 21 R pc lc [] μ
set_option maxRecDepth 20000 in
theorem vc_X10_weigh_0 {R : Mem → Option AV → Prop} {n a b : Int} {μ : Mem} (H : P_X9_townAt 1 n μ ∧ (∀ (rv2 : Int), Q_X9_townAt 1 n μ rv2 → (rv2 < 0 → R μ (some (kI 0))) ∧ (¬ rv2 < 0 → P_X7_hasWalk rv2 a μ ∧ r32 (F_X7_hasWalk rv2 a μ) ∧ (((F_X7_hasWalk rv2 a μ) = 0) → R μ (some (kI 0))) ∧ (¬ ((F_X7_hasWalk rv2 a μ) = 0) → r32 b ∧ ((b < 0) → R μ (some (kI 0))) ∧ (¬ (b < 0) → r32 b ∧ ((b ≤ (99 : Int)) → (0 ≤ a ∧ a < 8) ∧ V_X10_weigh R 44 [] (updm μ (rv2 + 8) a b)) ∧ (¬ (b ≤ (99 : Int)) → R μ (some (kI 0)))))))) : V_X10_weigh R 0 [(0, kR 0), (1, kI n), (2, kI a), (3, kI b)] μ := by
  refine vm_step2 mt_X10_weigh ok_X10_weigh [(44, [])] 1000 ?_
  show isC 0 10 ∧ isC 1 9 ∧ P_X9_townAt 1 n μ ∧ (∀ (rv2 : Int), Q_X9_townAt 1 n μ rv2 → (rv2 < 0 → (0 ≤ (0 : Int) ∧ (0 : Int) ≤ 1) ∧ R μ (some (kI 0))) ∧ (¬ rv2 < 0 → isC rv2 7 ∧ P_X7_hasWalk rv2 a μ ∧ r32 (F_X7_hasWalk rv2 a μ) ∧ (((F_X7_hasWalk rv2 a μ) = 0) → (0 ≤ (0 : Int) ∧ (0 : Int) ≤ 1) ∧ R μ (some (kI 0))) ∧ (¬ ((F_X7_hasWalk rv2 a μ) = 0) → r32 b ∧ ((b < 0) → (0 ≤ (0 : Int) ∧ (0 : Int) ≤ 1) ∧ R μ (some (kI 0))) ∧ (¬ (b < 0) → (r32 b ∧ r32 (99 : Int)) ∧ ((b ≤ (99 : Int)) → isC rv2 7 ∧ inA (rv2 + 8) 0 a ∧ V_X10_weigh R 44 [] (updm μ (rv2 + 8) a b)) ∧ (¬ (b ≤ (99 : Int)) → (0 ≤ (0 : Int) ∧ (0 : Int) ≤ 1) ∧ R μ (some (kI 0)))))))
  exact ⟨c_0, ⟨c_1, H.1, fun rv2 hq3 => ⟨fun hz7 => ⟨⟨by omega, by omega⟩, ((H.2 rv2 hq3).1 hz7)⟩, fun hz7 => have h_rv2 := hq3.2.2 hz7; ⟨isT_C h_rv2, ((H.2 rv2 hq3).2 hz7).1, ⟨((H.2 rv2 hq3).2 hz7).2.1, fun hc6 => ⟨⟨by omega, by omega⟩, (((H.2 rv2 hq3).2 hz7).2.2.1 hc6)⟩, fun hc6 => ⟨(((H.2 rv2 hq3).2 hz7).2.2.2 hc6).1, fun hc5 => ⟨⟨by omega, by omega⟩, ((((H.2 rv2 hq3).2 hz7).2.2.2 hc6).2.1 hc5)⟩, fun hc5 => ⟨⟨((((H.2 rv2 hq3).2 hz7).2.2.2 hc6).2.2 hc5).1, by unfold r32; omega⟩, fun hc4 => ⟨isT_C h_rv2, ⟨isArr.in (T_weight h_rv2) (((((H.2 rv2 hq3).2 hz7).2.2.2 hc6).2.2 hc5).2.1 hc4).1.1 (((((H.2 rv2 hq3).2 hz7).2.2.2 hc6).2.2 hc5).2.1 hc4).1.2, (((((H.2 rv2 hq3).2 hz7).2.2.2 hc6).2.2 hc5).2.1 hc4).2⟩⟩, fun hc4 => ⟨⟨by omega, by omega⟩, (((((H.2 rv2 hq3).2 hz7).2.2.2 hc6).2.2 hc5).2.2 hc4)⟩⟩⟩⟩⟩⟩⟩⟩
set_option maxRecDepth 20000 in
theorem vc_X10_weigh_44 {R : Mem → Option AV → Prop} {μ : Mem} (H : R μ (some (kI 1))) : V_X10_weigh R 44 [] μ := by
  refine vm_step2 mt_X10_weigh ok_X10_weigh [(44, [])] 1000 ?_
  show (0 ≤ (1 : Int) ∧ (1 : Int) ≤ 1) ∧ R μ (some (kI 1))
  exact ⟨⟨by omega, by omega⟩, H⟩
theorem body_X10_weigh {o n a b : Int} {μ : Mem} {R : Mem → Option AV → Prop} (h : P_X10_weigh o n a b μ) (hR : ∀ (μ' : Mem) (r : Int), Q_X10_weigh o n a b μ μ' r → R μ' (some (kI r))) : V_X10_weigh R 0 [(0, kR o), (1, kI n), (2, kI a), (3, kI b)] μ := by
  obtain ⟨rfl, ⟨c, hc⟩, r_n, r_a, r_b⟩ := h
  obtain ⟨pt, hat⟩ := town_at hc r_n
  refine vc_X10_weigh_0 ⟨pt, fun t q => ?_⟩
  rcases hat t q with ⟨hneg, hno⟩ | ⟨hpos, hn, ht, hr, hl, hm⟩
  · exact ⟨fun _ => hR μ _ (chg_no hno), fun q => absurd hneg q⟩
  · have hT := hr.1.1
    have ok := hr.1.2
    have hp : 2 ≤ μ t 1 ∧ μ t 1 ≤ 8 := ok.1
    have hw8 : 0 ≤ μ t 12 ∧ μ t 12 ≤ 8 := ok.2.2.2.2.2.2.2.1
    have hdd : 0 ≤ μ t 16 ∧ μ t 16 ≤ 7 := ok.2.2.2.2.2.2.2.2.2.1
    have hws := ok.2.2.2.2.2.2.2.2.1
    have hds := ok.2.2.2.2.2.2.2.2.2.2
    refine ⟨fun q => absurd q hpos, fun _ => ?_⟩
    unfold F_X7_hasWalk
    by_cases ca : 0 ≤ a ∧ a < μ t 12
    · rw [if_pos ca]
      refine ⟨⟨hT, r_a, hw8⟩, rr (by omega), fun q => absurd q (by omega), fun _ => ⟨r_b, fun c1 => ?_, fun c1 => ⟨r_b, fun c2 => ⟨by omega, vc_X10_weigh_44 ?_⟩, fun c2 => ?_⟩⟩⟩
      · exact hR μ _ (chg_p0 hn ht (decide_eq_false (fun q => by have := q.2; omega)))
      · obtain ⟨m, em⟩ : ∃ m, m = updm μ (t + 8) a b := ⟨_, rfl⟩
        rw [← em]
        have fo : ∀ z : Int, z ≠ t + 8 → m z = μ z := fun z hz => by rw [em, ru_ne hz]
        have f8 : m (t + 8) = upd1 (μ (t + 8)) a b := by rw [em, ru_eq]
        have f0 : m t = μ t := fo t (by omega)
        refine hR m 1 (chg_yes hc hn ht (decide_eq_true (show (0 ≤ a ∧ a < μ t 12) ∧ 0 ≤ b ∧ b ≤ 99 from ⟨ca, by omega, by omega⟩)) (fun z hz => fo z (by omega)) (setF_ok ok hw8 (fun w w0 w1 => ⟨(hws w w0 w1).1, ?_, (hws w w0 w1).2.2⟩) hdd hds) rfl ?_ (by rw [f0]) (fo _ (by omega)) (by rw [f0]) (by rw [f0]) rfl)
        · by_cases e : w = a
          · rw [e, r1_eq]; omega
          · rw [r1_ne e]; exact (hws w w0 w1).2.1
        · rw [tv_set (μ := μ) (fun k _ => by rw [f0]) (fo _ (by omega)) (fo _ (by omega)) (fo _ (by omega)) (fo _ (by omega)), f0, f8, fo (t + 7) (by omega), fo (t + 9) (by omega), fo (t + 6) (by omega), clip_upd ca.1 ca.2]
          rfl
      · exact hR μ _ (chg_p0 hn ht (decide_eq_false (fun q => by have := q.2; omega)))
    · rw [if_neg ca]
      refine ⟨⟨hT, r_a, hw8⟩, rr (by omega), fun _ => ?_, fun q => absurd rfl q⟩
      exact hR μ _ (chg_p0 hn ht (decide_eq_false (fun q => ca q.1)))
theorem ct_X10_weigh : Ct mX10_weigh 1 21 0 0 (nrmS S_X10_weigh) := by
  refine ct_vm (own := RX10) (by decide +kernel) rfl ?_ ?_
  · intro as μ Q hS
    unfold S_X10_weigh at hS
    split at hS
    · exact Nat.le_of_ble_eq_true rfl
    · exact hS.elim
  · intro as μ R hS
    unfold S_X10_weigh at hS
    split at hS
    · exact body_X10_weigh hS.1 hS.2
    · exact hS.elim
def diaryF (a : Int) (v : TV) : TV := setF v (v 8 0) (v 9) (v 10) (v 11) (v 12 0 + 1) (upd1 (v 13) (v 12 0) a)
def P_X10_diary (o n a : Int) (μ : Mem) : Prop := o = 0 ∧ (∃ c, CI c μ) ∧ r32 n ∧ r32 a
def Q_X10_diary (_ n a : Int) (μ μ' : Mem) (r : Int) : Prop := Chg (chgT (stC μ) n (-1) (fun v => decide ((0 ≤ a ∧ a < v 0 0) ∧ v 12 0 < 7)) (diaryF a) (fun v => v 12 0 + 1)) μ μ' r
def S_X10_diary : S0t := fun as μ Q => match as with
  | [(2, x0), (0, x1), (0, x2)] => P_X10_diary x0 x1 x2 μ ∧ ∀ (μ' : Mem) (r : Int), Q_X10_diary x0 x1 x2 μ μ' r → Q μ' (some (kI r))
  | _ => False
theorem mono_X10_diary : Mono S_X10_diary := by
  intro as μ Q Q' h hS
  unfold S_X10_diary at hS ⊢
  split at hS
  · exact ⟨hS.1, fun μ' r q => h _ _ (hS.2 _ _ q)⟩
  · exact hS.elim
def iX10_diary : Inf := (kX10_diary, fTX10, pTX10, cTX10, lTX10, sTX10, [(110, 0, 1, 9, S_X9_townAt), (137, 0, 1, 7, S_X7_has)])
theorem ok_X10_diary : infOK iX10_diary mX10_diary RX10 1 21 := ⟨kkX10_diary, fTX10_ok, pTX10_ok _, cTX10_ok, lTX10_ok, sTX10_ok, c_cons ⟨mX9_townAt, 0, 0, ct_X9_townAt, mmX9_townAt, vvX9_townAt, lkX10_110, ⟨by decide, by decide⟩, ⟨_, _, rfl⟩, by decide, mono_X9_townAt⟩ (c_cons ⟨mX7_has, 0, 0, ct_X7_has, mmX7_has, vvX7_has, lkX10_137, ⟨by decide, by decide⟩, ⟨_, _, rfl⟩, by decide, mono_X7_has⟩ (c_nil))⟩
theorem mt_X10_diary : mtOK [] RX10 1 21 := mt_nil
abbrev V_X10_diary (R : Mem → Option AV → Prop) (pc : Nat) (lc : List (Nat × AV)) (μ : Mem) : Prop := VM mX10_diary RX10 1 21 R pc lc [] μ
set_option maxRecDepth 20000 in
theorem vc_X10_diary_0 {R : Mem → Option AV → Prop} {n a : Int} {μ : Mem} (H : P_X9_townAt 1 n μ ∧ (∀ (rv2 : Int), Q_X9_townAt 1 n μ rv2 → (rv2 < 0 → R μ (some (kI (-1)))) ∧ (¬ rv2 < 0 → P_X7_has rv2 a μ ∧ r32 (F_X7_has rv2 a μ) ∧ (((F_X7_has rv2 a μ) = 0) → R μ (some (kI (-1)))) ∧ (¬ ((F_X7_has rv2 a μ) = 0) → r32 (μ rv2 16) ∧ (((μ rv2 16) < (7 : Int)) → (0 ≤ (μ rv2 16) ∧ (μ rv2 16) < 7) ∧ V_X10_diary R 42 [(3, kR rv2)] (updm μ (rv2 + 9) (μ rv2 16) a)) ∧ (¬ ((μ rv2 16) < (7 : Int)) → R μ (some (kI (-1)))))))) : V_X10_diary R 0 [(0, kR 0), (1, kI n), (2, kI a)] μ := by
  refine vm_step2 mt_X10_diary ok_X10_diary [(42, [3]), (52, [3])] 1000 ?_
  show isC 0 10 ∧ isC 1 9 ∧ P_X9_townAt 1 n μ ∧ (∀ (rv2 : Int), Q_X9_townAt 1 n μ rv2 → (rv2 < 0 → R μ (some (kI (-1)))) ∧ (¬ rv2 < 0 → isC rv2 7 ∧ P_X7_has rv2 a μ ∧ r32 (F_X7_has rv2 a μ) ∧ (((F_X7_has rv2 a μ) = 0) → R μ (some (kI (-1)))) ∧ (¬ ((F_X7_has rv2 a μ) = 0) → isC rv2 7 ∧ (r32 (μ rv2 16) ∧ r32 (7 : Int)) ∧ (((μ rv2 16) < (7 : Int)) → isC rv2 7 ∧ isC rv2 7 ∧ inA (rv2 + 9) 0 (μ rv2 16) ∧ V_X10_diary R 42 [(3, kR rv2)] (updm μ (rv2 + 9) (μ rv2 16) a)) ∧ (¬ ((μ rv2 16) < (7 : Int)) → R μ (some (kI (-1)))))))
  exact ⟨c_0, ⟨c_1, H.1, fun rv2 hq3 => ⟨fun hz6 => ((H.2 rv2 hq3).1 hz6), fun hz6 => have h_rv2 := hq3.2.2 hz6; ⟨isT_C h_rv2, ((H.2 rv2 hq3).2 hz6).1, ⟨((H.2 rv2 hq3).2 hz6).2.1, fun hc5 => (((H.2 rv2 hq3).2 hz6).2.2.1 hc5), fun hc5 => ⟨isT_C h_rv2, ⟨⟨(((H.2 rv2 hq3).2 hz6).2.2.2 hc5).1, by unfold r32; omega⟩, fun hc4 => ⟨isT_C h_rv2, ⟨isT_C h_rv2, ⟨isArr.in (T_diary h_rv2) ((((H.2 rv2 hq3).2 hz6).2.2.2 hc5).2.1 hc4).1.1 ((((H.2 rv2 hq3).2 hz6).2.2.2 hc5).2.1 hc4).1.2, ((((H.2 rv2 hq3).2 hz6).2.2.2 hc5).2.1 hc4).2⟩⟩⟩, fun hc4 => ((((H.2 rv2 hq3).2 hz6).2.2.2 hc5).2.2 hc4)⟩⟩⟩⟩⟩⟩⟩
set_option maxRecDepth 20000 in
theorem vc_X10_diary_42 {R : Mem → Option AV → Prop} {t : Int} {μ : Mem} (ht : isT t) (H : V_X10_diary R 52 [(3, kR t)] (updm μ t 16 ((μ t 16) + 1))) : V_X10_diary R 42 [(3, kR t)] μ := by
  refine vm_step2 mt_X10_diary ok_X10_diary [(42, [3]), (52, [3])] 1000 ?_
  show isC t 7 ∧ isC t 7 ∧ 0 = 0 ∧ True ∧ V_X10_diary R 52 [(3, kR t)] (updm μ t 16 ((μ t 16) + 1))
  exact ⟨isT_C ht, ⟨isT_C ht, rfl, trivial, H⟩⟩
set_option maxRecDepth 20000 in
theorem vc_X10_diary_52 {R : Mem → Option AV → Prop} {t : Int} {μ : Mem} (ht : isT t) (H : R μ (some (kI (μ t 16)))) : V_X10_diary R 52 [(3, kR t)] μ := by
  refine vm_step2 mt_X10_diary ok_X10_diary [(42, [3]), (52, [3])] 1000 ?_
  show isC t 7 ∧ R μ (some (kI (μ t 16)))
  exact ⟨isT_C ht, H⟩
theorem body_X10_diary {o n a : Int} {μ : Mem} {R : Mem → Option AV → Prop} (h : P_X10_diary o n a μ) (hR : ∀ (μ' : Mem) (r : Int), Q_X10_diary o n a μ μ' r → R μ' (some (kI r))) : V_X10_diary R 0 [(0, kR o), (1, kI n), (2, kI a)] μ := by
  obtain ⟨rfl, ⟨c, hc⟩, r_n, r_a⟩ := h
  obtain ⟨pt, hat⟩ := town_at hc r_n
  refine vc_X10_diary_0 ⟨pt, fun t q => ?_⟩
  rcases hat t q with ⟨hneg, hno⟩ | ⟨hpos, hn, ht, hr, hl, hm⟩
  · exact ⟨fun _ => hR μ _ (chg_no hno), fun q => absurd hneg q⟩
  · have hT := hr.1.1
    have ok := hr.1.2
    have hp : 2 ≤ μ t 1 ∧ μ t 1 ≤ 8 := ok.1
    have hw8 : 0 ≤ μ t 12 ∧ μ t 12 ≤ 8 := ok.2.2.2.2.2.2.2.1
    have hdd : 0 ≤ μ t 16 ∧ μ t 16 ≤ 7 := ok.2.2.2.2.2.2.2.2.2.1
    have hws := ok.2.2.2.2.2.2.2.2.1
    have hds := ok.2.2.2.2.2.2.2.2.2.2
    refine ⟨fun q => absurd q hpos, fun _ => ?_⟩
    unfold F_X7_has
    by_cases ca : 0 ≤ a ∧ a < μ t 1
    · rw [if_pos ca]
      refine ⟨⟨hT, r_a, hp⟩, rr (by omega), fun q => absurd q (by omega), fun _ => ⟨rr (by omega), fun c1 => ⟨by omega, vc_X10_diary_42 hT ?_⟩, fun c1 => ?_⟩⟩
      · obtain ⟨m1, em1⟩ : ∃ m, m = updm μ (t + 9) (μ t 16) a := ⟨_, rfl⟩
        rw [← em1]
        refine vc_X10_diary_52 hT ?_
        obtain ⟨m, em⟩ : ∃ m, m = updm m1 t 16 (m1 t 16 + 1) := ⟨_, rfl⟩
        rw [← em]
        have g0 : m1 t = μ t := by rw [em1, ru_ne (by omega)]
        have fo : ∀ z : Int, z ≠ t → z ≠ t + 9 → m z = μ z := fun z hz hz2 => by rw [em, ru_ne hz, em1, ru_ne hz2]
        have fk : ∀ k : Int, k ≠ 16 → m t k = μ t k := fun k hk => by rw [em, ru_eq, r1_ne hk, g0]
        have f16 : m t 16 = μ t 16 + 1 := by rw [em, ru_eq, r1_eq, g0]
        have f9 : m (t + 9) = upd1 (μ (t + 9)) (μ t 16) a := by rw [em, ru_ne (by omega), em1, ru_eq]
        refine hR m _ (chg_yes hc hn ht (decide_eq_true (show (0 ≤ a ∧ a < μ t 1) ∧ μ t 16 < 7 from ⟨ca, c1⟩)) (fun z hz => fo z (by omega) (by omega)) (setF_ok ok hw8 hws (show 0 ≤ μ t 16 + 1 ∧ μ t 16 + 1 ≤ 7 by omega) (fun i i0 i1 => ?_)) rfl ?_ (fk 0 (by omega)) (fo _ (by omega) (by omega)) (fk 3 (by omega)) (fk 4 (by omega)) f16)
        · by_cases e : i = μ t 16
          · rw [show tv μ t 12 0 = μ t 16 from rfl, e, r1_eq]; exact ca
          · rw [show tv μ t 12 0 = μ t 16 from rfl, r1_ne e]; exact hds i i0 (by have i2 : i < μ t 16 + 1 := i1; show i < μ t 16; omega)
        · rw [tv_set (μ := μ) (fun k _ => fk k (by omega)) (fo _ (by omega) (by omega)) (fo _ (by omega) (by omega)) (fo _ (by omega) (by omega)) (fo _ (by omega) (by omega)), f16, f9, fk 12 (by omega), fo (t + 7) (by omega) (by omega), fo (t + 8) (by omega) (by omega), fo (t + 6) (by omega) (by omega), clip_upd_s hdd.1]
          rfl
      · exact hR μ _ (chg_p0 hn ht (decide_eq_false (fun q => c1 q.2)))
    · rw [if_neg ca]
      refine ⟨⟨hT, r_a, hp⟩, rr (by omega), fun _ => ?_, fun q => absurd rfl q⟩
      exact hR μ _ (chg_p0 hn ht (decide_eq_false (fun q => ca q.1)))
theorem ct_X10_diary : Ct mX10_diary 1 21 0 0 (nrmS S_X10_diary) := by
  refine ct_vm (own := RX10) (by decide +kernel) rfl ?_ ?_
  · intro as μ Q hS
    unfold S_X10_diary at hS
    split at hS
    · exact Nat.le_of_ble_eq_true rfl
    · exact hS.elim
  · intro as μ R hS
    unfold S_X10_diary at hS
    split at hS
    · exact body_X10_diary hS.1 hS.2
    · exact hS.elim
def walkF (v : TV) : TV := setF v (v 8 0 + 1) (upd1 (v 9) (v 8 0) 0) (upd1 (v 10) (v 8 0) 1) (v 11) (v 12 0) (v 13)
def P_X10_walk (o n : Int) (μ : Mem) : Prop := o = 0 ∧ (∃ c, CI c μ) ∧ r32 n
def Q_X10_walk (_ n : Int) (μ μ' : Mem) (r : Int) : Prop := Chg (chgT (stC μ) n (-1) (fun v => decide (v 8 0 < 8)) walkF (fun v => v 8 0)) μ μ' r
def S_X10_walk : S0t := fun as μ Q => match as with
  | [(2, x0), (0, x1)] => P_X10_walk x0 x1 μ ∧ ∀ (μ' : Mem) (r : Int), Q_X10_walk x0 x1 μ μ' r → Q μ' (some (kI r))
  | _ => False
theorem mono_X10_walk : Mono S_X10_walk := by
  intro as μ Q Q' h hS
  unfold S_X10_walk at hS ⊢
  split at hS
  · exact ⟨hS.1, fun μ' r q => h _ _ (hS.2 _ _ q)⟩
  · exact hS.elim
def iX10_walk : Inf := (kX10_walk, fTX10, pTX10, cTX10, lTX10, sTX10, [(110, 0, 1, 9, S_X9_townAt)])
theorem ok_X10_walk : infOK iX10_walk mX10_walk RX10 1 21 := ⟨kkX10_walk, fTX10_ok, pTX10_ok _, cTX10_ok, lTX10_ok, sTX10_ok, c_cons ⟨mX9_townAt, 0, 0, ct_X9_townAt, mmX9_townAt, vvX9_townAt, lkX10_110, ⟨by decide, by decide⟩, ⟨_, _, rfl⟩, by decide, mono_X9_townAt⟩ (c_nil)⟩
theorem mt_X10_walk : mtOK [] RX10 1 21 := mt_nil
abbrev V_X10_walk (R : Mem → Option AV → Prop) (pc : Nat) (lc : List (Nat × AV)) (μ : Mem) : Prop := VM mX10_walk RX10 1 21 R pc lc [] μ
set_option maxRecDepth 20000 in
theorem vc_X10_walk_0 {R : Mem → Option AV → Prop} {n : Int} {μ : Mem} (H : P_X9_townAt 1 n μ ∧ (∀ (rv2 : Int), Q_X9_townAt 1 n μ rv2 → (rv2 < 0 → R μ (some (kI (-1)))) ∧ (¬ rv2 < 0 → r32 (μ rv2 12) ∧ (((μ rv2 12) < (8 : Int)) → (0 ≤ (μ rv2 12) ∧ (μ rv2 12) < 8) ∧ V_X10_walk R 34 [(2, kR rv2)] (updm μ (rv2 + 7) (μ rv2 12) 0)) ∧ (¬ ((μ rv2 12) < (8 : Int)) → R μ (some (kI (-1))))))) : V_X10_walk R 0 [(0, kR 0), (1, kI n)] μ := by
  refine vm_step2 mt_X10_walk ok_X10_walk [(34, [2]), (44, [2]), (54, [2])] 1000 ?_
  show isC 0 10 ∧ isC 1 9 ∧ P_X9_townAt 1 n μ ∧ (∀ (rv2 : Int), Q_X9_townAt 1 n μ rv2 → (rv2 < 0 → R μ (some (kI (-1)))) ∧ (¬ rv2 < 0 → isC rv2 7 ∧ (r32 (μ rv2 12) ∧ r32 (8 : Int)) ∧ (((μ rv2 12) < (8 : Int)) → isC rv2 7 ∧ isC rv2 7 ∧ inA (rv2 + 7) 0 (μ rv2 12) ∧ V_X10_walk R 34 [(2, kR rv2)] (updm μ (rv2 + 7) (μ rv2 12) 0)) ∧ (¬ ((μ rv2 12) < (8 : Int)) → R μ (some (kI (-1))))))
  exact ⟨c_0, ⟨c_1, H.1, fun rv2 hq3 => ⟨fun hz5 => ((H.2 rv2 hq3).1 hz5), fun hz5 => have h_rv2 := hq3.2.2 hz5; ⟨isT_C h_rv2, ⟨⟨((H.2 rv2 hq3).2 hz5).1, by unfold r32; omega⟩, fun hc4 => ⟨isT_C h_rv2, ⟨isT_C h_rv2, ⟨isArr.in (T_stopCount h_rv2) (((H.2 rv2 hq3).2 hz5).2.1 hc4).1.1 (((H.2 rv2 hq3).2 hz5).2.1 hc4).1.2, (((H.2 rv2 hq3).2 hz5).2.1 hc4).2⟩⟩⟩, fun hc4 => (((H.2 rv2 hq3).2 hz5).2.2 hc4)⟩⟩⟩⟩⟩
set_option maxRecDepth 20000 in
theorem vc_X10_walk_34 {R : Mem → Option AV → Prop} {t : Int} {μ : Mem} (ht : isT t) (H : (0 ≤ (μ t 12) ∧ (μ t 12) < 8) ∧ V_X10_walk R 44 [(2, kR t)] (updm μ (t + 8) (μ t 12) 1)) : V_X10_walk R 34 [(2, kR t)] μ := by
  refine vm_step2 mt_X10_walk ok_X10_walk [(34, [2]), (44, [2]), (54, [2])] 1000 ?_
  show isC t 7 ∧ isC t 7 ∧ inA (t + 8) 0 (μ t 12) ∧ V_X10_walk R 44 [(2, kR t)] (updm μ (t + 8) (μ t 12) 1)
  exact ⟨isT_C ht, ⟨isT_C ht, ⟨isArr.in (T_weight ht) H.1.1 H.1.2, H.2⟩⟩⟩
set_option maxRecDepth 20000 in
theorem vc_X10_walk_44 {R : Mem → Option AV → Prop} {t : Int} {μ : Mem} (ht : isT t) (H : V_X10_walk R 54 [(2, kR t)] (updm μ t 12 ((μ t 12) + 1))) : V_X10_walk R 44 [(2, kR t)] μ := by
  refine vm_step2 mt_X10_walk ok_X10_walk [(34, [2]), (44, [2]), (54, [2])] 1000 ?_
  show isC t 7 ∧ isC t 7 ∧ 0 = 0 ∧ True ∧ V_X10_walk R 54 [(2, kR t)] (updm μ t 12 ((μ t 12) + 1))
  exact ⟨isT_C ht, ⟨isT_C ht, rfl, trivial, H⟩⟩
set_option maxRecDepth 20000 in
theorem vc_X10_walk_54 {R : Mem → Option AV → Prop} {t : Int} {μ : Mem} (ht : isT t) (H : R μ (some (kI ((μ t 12) - 1)))) : V_X10_walk R 54 [(2, kR t)] μ := by
  refine vm_step2 mt_X10_walk ok_X10_walk [(34, [2]), (44, [2]), (54, [2])] 1000 ?_
  show isC t 7 ∧ R μ (some (kI ((μ t 12) - 1)))
  exact ⟨isT_C ht, H⟩
theorem body_X10_walk {o n : Int} {μ : Mem} {R : Mem → Option AV → Prop} (h : P_X10_walk o n μ) (hR : ∀ (μ' : Mem) (r : Int), Q_X10_walk o n μ μ' r → R μ' (some (kI r))) : V_X10_walk R 0 [(0, kR o), (1, kI n)] μ := by
  obtain ⟨rfl, ⟨c, hc⟩, r_n⟩ := h
  obtain ⟨pt, hat⟩ := town_at hc r_n
  refine vc_X10_walk_0 ⟨pt, fun t q => ?_⟩
  rcases hat t q with ⟨hneg, hno⟩ | ⟨hpos, hn, ht, hr, hl, hm⟩
  · exact ⟨fun _ => hR μ _ (chg_no hno), fun q => absurd hneg q⟩
  · have hT := hr.1.1
    have ok := hr.1.2
    have hp : 2 ≤ μ t 1 ∧ μ t 1 ≤ 8 := ok.1
    have hw8 : 0 ≤ μ t 12 ∧ μ t 12 ≤ 8 := ok.2.2.2.2.2.2.2.1
    have hdd : 0 ≤ μ t 16 ∧ μ t 16 ≤ 7 := ok.2.2.2.2.2.2.2.2.2.1
    have hws := ok.2.2.2.2.2.2.2.2.1
    have hds := ok.2.2.2.2.2.2.2.2.2.2
    refine ⟨fun q => absurd q hpos, fun _ => ?_⟩
    refine ⟨rr (by omega), fun c1 => ⟨by omega, vc_X10_walk_34 hT ?_⟩, fun c1 => ?_⟩
    · obtain ⟨m1, em1⟩ : ∃ m, m = updm μ (t + 7) (μ t 12) 0 := ⟨_, rfl⟩
      rw [← em1]
      have g0 : m1 t = μ t := by rw [em1, ru_ne (by omega)]
      rw [g0]
      refine ⟨by omega, vc_X10_walk_44 hT ?_⟩
      obtain ⟨m2, em2⟩ : ∃ m, m = updm m1 (t + 8) (μ t 12) 1 := ⟨_, rfl⟩
      rw [← em2]
      have g1 : m2 t = μ t := by rw [em2, ru_ne (by omega), g0]
      rw [g1]
      refine vc_X10_walk_54 hT ?_
      obtain ⟨m, em⟩ : ∃ m, m = updm m2 t 12 (μ t 12 + 1) := ⟨_, rfl⟩
      rw [← em]
      have fo : ∀ z : Int, z ≠ t → z ≠ t + 7 → z ≠ t + 8 → m z = μ z := fun z hz h7 h8 => by rw [em, ru_ne hz, em2, ru_ne h8, em1, ru_ne h7]
      have fk : ∀ k : Int, k ≠ 12 → m t k = μ t k := fun k hk => by rw [em, ru_eq, r1_ne hk, g1]
      have f12 : m t 12 = μ t 12 + 1 := by rw [em, ru_eq, r1_eq]
      have f7 : m (t + 7) = upd1 (μ (t + 7)) (μ t 12) 0 := by rw [em, ru_ne (by omega), em2, ru_ne (by omega), em1, ru_eq]
      have f8 : m (t + 8) = upd1 (μ (t + 8)) (μ t 12) 1 := by rw [em, ru_ne (by omega), em2, ru_eq, em1, ru_ne (by omega)]
      refine hR m _ (chg_yes hc hn ht (decide_eq_true (show μ t 12 < 8 from c1)) (fun z hz => fo z (by omega) (by omega) (by omega)) (setF_ok ok (show 0 ≤ μ t 12 + 1 ∧ μ t 12 + 1 ≤ 8 by omega) (fun w w0 w1 => ?_) hdd hds) rfl ?_ (fk 0 (by omega)) (fo _ (by omega) (by omega) (by omega)) (fk 3 (by omega)) (fk 4 (by omega)) (show m t 12 - 1 = μ t 12 by omega))
      · have w2 : w < μ t 12 + 1 := w1
        rw [show tv μ t 8 0 = μ t 12 from rfl]
        by_cases e : w = μ t 12
        · rw [e, r1_eq, r1_eq]
          exact ⟨by omega, by omega, fun i i0 i1 => absurd i1 (by omega)⟩
        · rw [r1_ne e, r1_ne e]
          exact hws w w0 (by show w < μ t 12; omega)
      · rw [tv_set (μ := μ) (fun k _ => fk k (by omega)) (fo _ (by omega) (by omega) (by omega)) (fo _ (by omega) (by omega) (by omega)) (fo _ (by omega) (by omega) (by omega)) (fo _ (by omega) (by omega) (by omega)), f12, f7, f8, fk 16 (by omega), fo (t + 9) (by omega) (by omega) (by omega), fo (t + 6) (by omega) (by omega) (by omega), clip_upd_s hw8.1, clip_upd_s hw8.1]
        have e11 : (fun j : Int => if 0 ≤ j ∧ j / 16 < μ t 12 + 1 ∧ j % 16 < upd1 (μ (t + 7)) (μ t 12) 0 (j / 16) then μ (t + 6) j else 0) = tv μ t 11 := by
          funext j
          show _ = if 0 ≤ j ∧ j / 16 < μ t 12 ∧ j % 16 < μ (t + 7) (j / 16) then μ (t + 6) j else 0
          by_cases e : j / 16 = μ t 12
          · rw [e, r1_eq, if_neg (by omega), if_neg (by omega)]
          · rw [r1_ne e]
            by_cases c : 0 ≤ j ∧ j / 16 < μ t 12 ∧ j % 16 < μ (t + 7) (j / 16)
            · rw [if_pos c, if_pos ⟨c.1, by omega, c.2.2⟩]
            · rw [if_neg c, if_neg (fun q => c ⟨q.1, by omega, q.2.2⟩)]
        rw [e11]
        rfl
    · exact hR μ _ (chg_p0 hn ht (decide_eq_false (fun q => c1 q)))
theorem ct_X10_walk : Ct mX10_walk 1 21 0 0 (nrmS S_X10_walk) := by
  refine ct_vm (own := RX10) (by decide +kernel) rfl ?_ ?_
  · intro as μ Q hS
    unfold S_X10_walk at hS
    split at hS
    · exact Nat.le_of_ble_eq_true rfl
    · exact hS.elim
  · intro as μ R hS
    unfold S_X10_walk at hS
    split at hS
    · exact body_X10_walk hS.1 hS.2
    · exact hS.elim
def stopF (a b : Int) (v : TV) : TV := setF v (v 8 0) (upd1 (v 9) a (v 9 a + 1)) (v 10) (upd1 (v 11) (16 * a + v 9 a) b) (v 12 0) (v 13)
def P_X10_stop (o n a b : Int) (μ : Mem) : Prop := o = 0 ∧ (∃ c, CI c μ) ∧ r32 n ∧ r32 a ∧ r32 b
def Q_X10_stop (_ n a b : Int) (μ μ' : Mem) (r : Int) : Prop := Chg (chgT (stC μ) n (-1) (fun v => decide ((0 ≤ a ∧ a < v 8 0) ∧ (0 ≤ b ∧ b < v 0 0) ∧ v 9 a < 16)) (stopF a b) (fun v => v 9 a + 1)) μ μ' r
def S_X10_stop : S0t := fun as μ Q => match as with
  | [(2, x0), (0, x1), (0, x2), (0, x3)] => P_X10_stop x0 x1 x2 x3 μ ∧ ∀ (μ' : Mem) (r : Int), Q_X10_stop x0 x1 x2 x3 μ μ' r → Q μ' (some (kI r))
  | _ => False
theorem mono_X10_stop : Mono S_X10_stop := by
  intro as μ Q Q' h hS
  unfold S_X10_stop at hS ⊢
  split at hS
  · exact ⟨hS.1, fun μ' r q => h _ _ (hS.2 _ _ q)⟩
  · exact hS.elim
def iX10_stop : Inf := (kX10_stop, fTX10, pTX10, cTX10, lTX10, sTX10, [(110, 0, 1, 9, S_X9_townAt), (157, 0, 1, 7, S_X7_hasWalk), (137, 0, 1, 7, S_X7_has)])
theorem ok_X10_stop : infOK iX10_stop mX10_stop RX10 1 21 := ⟨kkX10_stop, fTX10_ok, pTX10_ok _, cTX10_ok, lTX10_ok, sTX10_ok, c_cons ⟨mX9_townAt, 0, 0, ct_X9_townAt, mmX9_townAt, vvX9_townAt, lkX10_110, ⟨by decide, by decide⟩, ⟨_, _, rfl⟩, by decide, mono_X9_townAt⟩ (c_cons ⟨mX7_hasWalk, 0, 0, ct_X7_hasWalk, mmX7_hasWalk, vvX7_hasWalk, lkX10_157, ⟨by decide, by decide⟩, ⟨_, _, rfl⟩, by decide, mono_X7_hasWalk⟩ (c_cons ⟨mX7_has, 0, 0, ct_X7_has, mmX7_has, vvX7_has, lkX10_137, ⟨by decide, by decide⟩, ⟨_, _, rfl⟩, by decide, mono_X7_has⟩ (c_nil)))⟩
theorem mt_X10_stop : mtOK [] RX10 1 21 := mt_nil
abbrev V_X10_stop (R : Mem → Option AV → Prop) (pc : Nat) (lc : List (Nat × AV)) (μ : Mem) : Prop := VM mX10_stop RX10 1 21 R pc lc [] μ
set_option maxRecDepth 20000 in
theorem vc_X10_stop_0 {R : Mem → Option AV → Prop} {n a b : Int} {μ : Mem} (H : P_X9_townAt 1 n μ ∧ (∀ (rv2 : Int), Q_X9_townAt 1 n μ rv2 → (rv2 < 0 → R μ (some (kI (-1)))) ∧ (¬ rv2 < 0 → P_X7_hasWalk rv2 a μ ∧ r32 (F_X7_hasWalk rv2 a μ) ∧ (((F_X7_hasWalk rv2 a μ) = 0) → R μ (some (kI (-1)))) ∧ (¬ ((F_X7_hasWalk rv2 a μ) = 0) → P_X7_has rv2 b μ ∧ r32 (F_X7_has rv2 b μ) ∧ (((F_X7_has rv2 b μ) = 0) → R μ (some (kI (-1)))) ∧ (¬ ((F_X7_has rv2 b μ) = 0) → (0 ≤ a ∧ a < 8) ∧ r32 (μ (rv2 + 7) a) ∧ (((μ (rv2 + 7) a) < (16 : Int)) → (0 ≤ a ∧ a < 8) ∧ (0 ≤ ((a * 16) + (μ (rv2 + 7) a)) ∧ ((a * 16) + (μ (rv2 + 7) a)) < 128) ∧ V_X10_stop R 66 [(2, kI a), (4, kR rv2)] (updm μ (rv2 + 6) ((a * 16) + (μ (rv2 + 7) a)) b)) ∧ (¬ ((μ (rv2 + 7) a) < (16 : Int)) → R μ (some (kI (-1))))))))) : V_X10_stop R 0 [(0, kR 0), (1, kI n), (2, kI a), (3, kI b)] μ := by
  refine vm_step2 mt_X10_stop ok_X10_stop [(66, [2, 4]), (77, [2, 4])] 1000 ?_
  show isC 0 10 ∧ isC 1 9 ∧ P_X9_townAt 1 n μ ∧ (∀ (rv2 : Int), Q_X9_townAt 1 n μ rv2 → (rv2 < 0 → R μ (some (kI (-1)))) ∧ (¬ rv2 < 0 → isC rv2 7 ∧ P_X7_hasWalk rv2 a μ ∧ r32 (F_X7_hasWalk rv2 a μ) ∧ (((F_X7_hasWalk rv2 a μ) = 0) → R μ (some (kI (-1)))) ∧ (¬ ((F_X7_hasWalk rv2 a μ) = 0) → isC rv2 7 ∧ P_X7_has rv2 b μ ∧ r32 (F_X7_has rv2 b μ) ∧ (((F_X7_has rv2 b μ) = 0) → R μ (some (kI (-1)))) ∧ (¬ ((F_X7_has rv2 b μ) = 0) → isC rv2 7 ∧ inA (rv2 + 7) 0 a ∧ (r32 (μ (rv2 + 7) a) ∧ r32 (16 : Int)) ∧ (((μ (rv2 + 7) a) < (16 : Int)) → isC rv2 7 ∧ isC rv2 7 ∧ inA (rv2 + 7) 0 a ∧ inA (rv2 + 6) 0 ((a * 16) + (μ (rv2 + 7) a)) ∧ V_X10_stop R 66 [(2, kI a), (4, kR rv2)] (updm μ (rv2 + 6) ((a * 16) + (μ (rv2 + 7) a)) b)) ∧ (¬ ((μ (rv2 + 7) a) < (16 : Int)) → R μ (some (kI (-1))))))))
  exact ⟨c_0, ⟨c_1, H.1, fun rv2 hq3 => ⟨fun hz7 => ((H.2 rv2 hq3).1 hz7), fun hz7 => have h_rv2 := hq3.2.2 hz7; ⟨isT_C h_rv2, ((H.2 rv2 hq3).2 hz7).1, ⟨((H.2 rv2 hq3).2 hz7).2.1, fun hc6 => (((H.2 rv2 hq3).2 hz7).2.2.1 hc6), fun hc6 => ⟨isT_C h_rv2, (((H.2 rv2 hq3).2 hz7).2.2.2 hc6).1, ⟨(((H.2 rv2 hq3).2 hz7).2.2.2 hc6).2.1, fun hc5 => ((((H.2 rv2 hq3).2 hz7).2.2.2 hc6).2.2.1 hc5), fun hc5 => ⟨isT_C h_rv2, ⟨isArr.in (T_stopCount h_rv2) ((((H.2 rv2 hq3).2 hz7).2.2.2 hc6).2.2.2 hc5).1.1 ((((H.2 rv2 hq3).2 hz7).2.2.2 hc6).2.2.2 hc5).1.2, ⟨⟨((((H.2 rv2 hq3).2 hz7).2.2.2 hc6).2.2.2 hc5).2.1, by unfold r32; omega⟩, fun hc4 => ⟨isT_C h_rv2, ⟨isT_C h_rv2, ⟨isArr.in (T_stopCount h_rv2) (((((H.2 rv2 hq3).2 hz7).2.2.2 hc6).2.2.2 hc5).2.2.1 hc4).1.1 (((((H.2 rv2 hq3).2 hz7).2.2.2 hc6).2.2.2 hc5).2.2.1 hc4).1.2, ⟨isArr.in (T_stops h_rv2) (((((H.2 rv2 hq3).2 hz7).2.2.2 hc6).2.2.2 hc5).2.2.1 hc4).2.1.1 (((((H.2 rv2 hq3).2 hz7).2.2.2 hc6).2.2.2 hc5).2.2.1 hc4).2.1.2, (((((H.2 rv2 hq3).2 hz7).2.2.2 hc6).2.2.2 hc5).2.2.1 hc4).2.2⟩⟩⟩⟩, fun hc4 => (((((H.2 rv2 hq3).2 hz7).2.2.2 hc6).2.2.2 hc5).2.2.2 hc4)⟩⟩⟩⟩⟩⟩⟩⟩⟩⟩
set_option maxRecDepth 20000 in
theorem vc_X10_stop_66 {R : Mem → Option AV → Prop} {a t : Int} {μ : Mem} (ht : isT t) (H : (0 ≤ a ∧ a < 8) ∧ (0 ≤ a ∧ a < 8) ∧ V_X10_stop R 77 [(2, kI a), (4, kR t)] (updm μ (t + 7) a ((μ (t + 7) a) + 1))) : V_X10_stop R 66 [(2, kI a), (4, kR t)] μ := by
  refine vm_step2 mt_X10_stop ok_X10_stop [(66, [2, 4]), (77, [2, 4])] 1000 ?_
  show isC t 7 ∧ inA (t + 7) 0 a ∧ inA (t + 7) 0 a ∧ V_X10_stop R 77 [(2, kI a), (4, kR t)] (updm μ (t + 7) a ((μ (t + 7) a) + 1))
  exact ⟨isT_C ht, ⟨isArr.in (T_stopCount ht) H.1.1 H.1.2, ⟨isArr.in (T_stopCount ht) H.2.1.1 H.2.1.2, H.2.2⟩⟩⟩
set_option maxRecDepth 20000 in
theorem vc_X10_stop_77 {R : Mem → Option AV → Prop} {a t : Int} {μ : Mem} (ht : isT t) (H : (0 ≤ a ∧ a < 8) ∧ R μ (some (kI (μ (t + 7) a)))) : V_X10_stop R 77 [(2, kI a), (4, kR t)] μ := by
  refine vm_step2 mt_X10_stop ok_X10_stop [(66, [2, 4]), (77, [2, 4])] 1000 ?_
  show isC t 7 ∧ inA (t + 7) 0 a ∧ R μ (some (kI (μ (t + 7) a)))
  exact ⟨isT_C ht, ⟨isArr.in (T_stopCount ht) H.1.1 H.1.2, H.2⟩⟩
theorem body_X10_stop {o n a b : Int} {μ : Mem} {R : Mem → Option AV → Prop} (h : P_X10_stop o n a b μ) (hR : ∀ (μ' : Mem) (r : Int), Q_X10_stop o n a b μ μ' r → R μ' (some (kI r))) : V_X10_stop R 0 [(0, kR o), (1, kI n), (2, kI a), (3, kI b)] μ := by
  obtain ⟨rfl, ⟨c, hc⟩, r_n, r_a, r_b⟩ := h
  obtain ⟨pt, hat⟩ := town_at hc r_n
  refine vc_X10_stop_0 ⟨pt, fun t q => ?_⟩
  rcases hat t q with ⟨hneg, hno⟩ | ⟨hpos, hn, ht, hr, hl, hm⟩
  · exact ⟨fun _ => hR μ _ (chg_no hno), fun q => absurd hneg q⟩
  · have hT := hr.1.1
    have ok := hr.1.2
    have hp : 2 ≤ μ t 1 ∧ μ t 1 ≤ 8 := ok.1
    have hw8 : 0 ≤ μ t 12 ∧ μ t 12 ≤ 8 := ok.2.2.2.2.2.2.2.1
    have hdd : 0 ≤ μ t 16 ∧ μ t 16 ≤ 7 := ok.2.2.2.2.2.2.2.2.2.1
    have hws := ok.2.2.2.2.2.2.2.2.1
    have hds := ok.2.2.2.2.2.2.2.2.2.2
    refine ⟨fun q => absurd q hpos, fun _ => ?_⟩
    unfold F_X7_hasWalk
    by_cases ca : 0 ≤ a ∧ a < μ t 12
    · rw [if_pos ca]
      refine ⟨⟨hT, r_a, hw8⟩, rr (by omega), fun q => absurd q (by omega), fun _ => ⟨⟨hT, r_b, hp⟩, ?_⟩⟩
      unfold F_X7_has
      by_cases cb : 0 ≤ b ∧ b < μ t 1
      · rw [if_pos cb]
        have e9a := e9 μ t ca.1 (show a < tv μ t 8 0 from ca.2)
        have hwa := hws a ca.1 ca.2
        rw [e9a]
        refine ⟨rr (by omega), fun q => absurd q (by omega), fun _ => ⟨by omega, rr (by omega), fun c1 => ⟨by omega, by omega, vc_X10_stop_66 hT ?_⟩, fun c1 => ?_⟩⟩
        · obtain ⟨m1, em1⟩ : ∃ m, m = updm μ (t + 6) (a * 16 + tv μ t 9 a) b := ⟨_, rfl⟩
          rw [← em1]
          have g7 : m1 (t + 7) = μ (t + 7) := by rw [em1, ru_ne (by omega)]
          rw [g7, e9a]
          refine ⟨by omega, by omega, vc_X10_stop_77 hT ?_⟩
          obtain ⟨m, em⟩ : ∃ m, m = updm m1 (t + 7) a (tv μ t 9 a + 1) := ⟨_, rfl⟩
          rw [← em]
          have fo : ∀ z : Int, z ≠ t + 6 → z ≠ t + 7 → m z = μ z := fun z h6 h7 => by rw [em, ru_ne h7, em1, ru_ne h6]
          have f0 : m t = μ t := fo t (by omega) (by omega)
          have f7 : m (t + 7) = upd1 (μ (t + 7)) a (tv μ t 9 a + 1) := by rw [em, ru_eq, g7]
          have f6 : m (t + 6) = upd1 (μ (t + 6)) (a * 16 + tv μ t 9 a) b := by rw [em, ru_ne (by omega), em1, ru_eq]
          refine ⟨by omega, hR m _ (chg_yes hc hn ht (decide_eq_true (show (0 ≤ a ∧ a < μ t 12) ∧ (0 ≤ b ∧ b < μ t 1) ∧ tv μ t 9 a < 16 from ⟨ca, cb, c1⟩)) (fun z hz => fo z (by omega) (by omega)) (setF_ok ok hw8 (fun w w0 w1 => ⟨?_, (hws w w0 w1).2.1, ?_⟩) hdd hds) rfl ?_ (by rw [f0]) (fo _ (by omega) (by omega)) (by rw [f0]) (by rw [f0]) (by rw [f7, r1_eq]))⟩
          · by_cases e : w = a
            · rw [e, r1_eq]; omega
            · rw [r1_ne e]; exact (hws w w0 w1).1
          · intro i i0 i1
            have hww := hws w w0 w1
            by_cases e : w = a
            · subst e
              rw [r1_eq] at i1
              by_cases e2 : i = tv μ t 9 w
              · rw [e2, r1_eq]; exact cb
              · rw [r1_ne (by omega)]; exact hww.2.2 i i0 (by omega)
            · rw [r1_ne e] at i1
              rw [r1_ne (by omega)]; exact hww.2.2 i i0 i1
          · rw [tv_set (μ := μ) (fun k _ => by rw [f0]) (fo _ (by omega) (by omega)) (fo _ (by omega) (by omega)) (fo _ (by omega) (by omega)) (fo _ (by omega) (by omega)), f0, f7, f6, fo (t + 8) (by omega) (by omega), fo (t + 9) (by omega) (by omega), clip_upd ca.1 ca.2]
            have e11 : (fun j : Int => if 0 ≤ j ∧ j / 16 < μ t 12 ∧ j % 16 < upd1 (μ (t + 7)) a (tv μ t 9 a + 1) (j / 16) then upd1 (μ (t + 6)) (a * 16 + tv μ t 9 a) b j else 0) = upd1 (tv μ t 11) (16 * a + tv μ t 9 a) b := by
              funext j
              by_cases ej : j = 16 * a + tv μ t 9 a
              · have d1 : j / 16 = a := by omega
                have d2 : j % 16 = tv μ t 9 a := by omega
                rw [d1, d2, r1_eq, if_pos ⟨by omega, ca.2, by omega⟩, show j = a * 16 + tv μ t 9 a by omega, r1_eq, show a * 16 + tv μ t 9 a = 16 * a + tv μ t 9 a by omega, r1_eq]
              · rw [r1_ne ej, r1_ne (show j ≠ a * 16 + tv μ t 9 a by omega)]
                show _ = if 0 ≤ j ∧ j / 16 < μ t 12 ∧ j % 16 < μ (t + 7) (j / 16) then μ (t + 6) j else 0
                by_cases e : j / 16 = a
                · rw [e, r1_eq, e9a]
                  by_cases c : 0 ≤ j ∧ a < μ t 12 ∧ j % 16 < tv μ t 9 a
                  · rw [if_pos c, if_pos ⟨c.1, c.2.1, by omega⟩]
                  · rw [if_neg c, if_neg (fun q => c ⟨q.1, q.2.1, by omega⟩)]
                · rw [r1_ne e]
            rw [e11]
            rfl
        · exact hR μ _ (chg_p0 hn ht (decide_eq_false (fun q => c1 q.2.2)))
      · rw [if_neg cb]
        refine ⟨rr (by omega), fun _ => ?_, fun q => absurd rfl q⟩
        exact hR μ _ (chg_p0 hn ht (decide_eq_false (fun q => cb q.2.1)))
    · rw [if_neg ca]
      refine ⟨⟨hT, r_a, hw8⟩, rr (by omega), fun _ => ?_, fun q => absurd rfl q⟩
      exact hR μ _ (chg_p0 hn ht (decide_eq_false (fun q => ca q.1)))
theorem ct_X10_stop : Ct mX10_stop 1 21 0 0 (nrmS S_X10_stop) := by
  refine ct_vm (own := RX10) (by decide +kernel) rfl ?_ ?_
  · intro as μ Q hS
    unfold S_X10_stop at hS
    split at hS
    · exact Nat.le_of_ble_eq_true rfl
    · exact hS.elim
  · intro as μ R hS
    unfold S_X10_stop at hS
    split at hS
    · exact body_X10_stop hS.1 hS.2
    · exact hS.elim
