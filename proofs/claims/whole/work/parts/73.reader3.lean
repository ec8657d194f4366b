theorem setV_eq {v : TV} {f : Nat} {a x : Int} : setV v f a x f = upd1 (v f) a x := if_pos rfl
theorem setV_ne {v : TV} {f g : Nat} {a x : Int} (h : g ≠ f) : setV v f a x g = v g := if_neg h
theorem setP_eq {v : TV} {f : Nat} {x : Int} : setP v f x f = fun _ => x := if_pos rfl
theorem setP_ne {v : TV} {f g : Nat} {x : Int} (h : g ≠ f) : setP v f x g = v g := if_neg h
theorem clip_upd {n a x : Int} {f : Int → Int} (a0 : 0 ≤ a) (a1 : a < n) : clip n (upd1 f a x) = upd1 (clip n f) a x := by
  funext j
  unfold clip upd1
  by_cases e : j = a
  · subst e; rw [if_pos ⟨a0, a1⟩, if_pos rfl, if_pos rfl]
  · rw [if_neg e, if_neg e]
theorem tv_s3 {μ : Mem} {t a x : Int} (a0 : 0 ≤ a) (a8 : a < 8) : tv (updm μ (t + 3) a x) t = setV (tv μ t) 4 a x := by
  funext g
  match g with
  | 0 => rw [setV_ne (by decide)]; simp (disch := omega) only [tv, ru_ne, ru_eq]
  | 1 => rw [setV_ne (by decide)]; simp (disch := omega) only [tv, ru_ne, ru_eq]
  | 2 => rw [setV_ne (by decide)]; simp (disch := omega) only [tv, ru_ne, ru_eq]
  | 3 => rw [setV_ne (by decide)]; simp (disch := omega) only [tv, ru_ne, ru_eq]
  | 4 => rw [setV_eq]; simp (disch := omega) only [tv, ru_eq]; exact clip_upd a0 a8
  | 5 => rw [setV_ne (by decide)]; simp (disch := omega) only [tv, ru_ne, ru_eq]
  | 6 => rw [setV_ne (by decide)]; simp (disch := omega) only [tv, ru_ne, ru_eq]
  | 7 => rw [setV_ne (by decide)]; simp (disch := omega) only [tv, ru_ne, ru_eq]
  | 8 => rw [setV_ne (by decide)]; simp (disch := omega) only [tv, ru_ne, ru_eq]
  | 9 => rw [setV_ne (by decide)]; simp (disch := omega) only [tv, ru_ne, ru_eq]
  | 10 => rw [setV_ne (by decide)]; simp (disch := omega) only [tv, ru_ne, ru_eq]
  | 11 => rw [setV_ne (by decide)]; simp (disch := omega) only [tv, ru_ne, ru_eq]
  | 12 => rw [setV_ne (by decide)]; simp (disch := omega) only [tv, ru_ne, ru_eq]
  | g + 13 => rw [setV_ne (by omega)]; simp (disch := omega) only [tv, ru_ne, ru_eq]
theorem tv_s4 {μ : Mem} {t a x : Int} (a0 : 0 ≤ a) (a8 : a < 8) : tv (updm μ (t + 4) a x) t = setV (tv μ t) 5 a x := by
  funext g
  match g with
  | 0 => rw [setV_ne (by decide)]; simp (disch := omega) only [tv, ru_ne, ru_eq]
  | 1 => rw [setV_ne (by decide)]; simp (disch := omega) only [tv, ru_ne, ru_eq]
  | 2 => rw [setV_ne (by decide)]; simp (disch := omega) only [tv, ru_ne, ru_eq]
  | 3 => rw [setV_ne (by decide)]; simp (disch := omega) only [tv, ru_ne, ru_eq]
  | 4 => rw [setV_ne (by decide)]; simp (disch := omega) only [tv, ru_ne, ru_eq]
  | 5 => rw [setV_eq]; simp (disch := omega) only [tv, ru_eq]; exact clip_upd a0 a8
  | 6 => rw [setV_ne (by decide)]; simp (disch := omega) only [tv, ru_ne, ru_eq]
  | 7 => rw [setV_ne (by decide)]; simp (disch := omega) only [tv, ru_ne, ru_eq]
  | 8 => rw [setV_ne (by decide)]; simp (disch := omega) only [tv, ru_ne, ru_eq]
  | 9 => rw [setV_ne (by decide)]; simp (disch := omega) only [tv, ru_ne, ru_eq]
  | 10 => rw [setV_ne (by decide)]; simp (disch := omega) only [tv, ru_ne, ru_eq]
  | 11 => rw [setV_ne (by decide)]; simp (disch := omega) only [tv, ru_ne, ru_eq]
  | 12 => rw [setV_ne (by decide)]; simp (disch := omega) only [tv, ru_ne, ru_eq]
  | g + 13 => rw [setV_ne (by omega)]; simp (disch := omega) only [tv, ru_ne, ru_eq]
theorem tv_s5 {μ : Mem} {t a x : Int} (a0 : 0 ≤ a) (a8 : a < 8) : tv (updm μ (t + 5) a x) t = setV (tv μ t) 6 a x := by
  funext g
  match g with
  | 0 => rw [setV_ne (by decide)]; simp (disch := omega) only [tv, ru_ne, ru_eq]
  | 1 => rw [setV_ne (by decide)]; simp (disch := omega) only [tv, ru_ne, ru_eq]
  | 2 => rw [setV_ne (by decide)]; simp (disch := omega) only [tv, ru_ne, ru_eq]
  | 3 => rw [setV_ne (by decide)]; simp (disch := omega) only [tv, ru_ne, ru_eq]
  | 4 => rw [setV_ne (by decide)]; simp (disch := omega) only [tv, ru_ne, ru_eq]
  | 5 => rw [setV_ne (by decide)]; simp (disch := omega) only [tv, ru_ne, ru_eq]
  | 6 => rw [setV_eq]; simp (disch := omega) only [tv, ru_eq]; exact clip_upd a0 a8
  | 7 => rw [setV_ne (by decide)]; simp (disch := omega) only [tv, ru_ne, ru_eq]
  | 8 => rw [setV_ne (by decide)]; simp (disch := omega) only [tv, ru_ne, ru_eq]
  | 9 => rw [setV_ne (by decide)]; simp (disch := omega) only [tv, ru_ne, ru_eq]
  | 10 => rw [setV_ne (by decide)]; simp (disch := omega) only [tv, ru_ne, ru_eq]
  | 11 => rw [setV_ne (by decide)]; simp (disch := omega) only [tv, ru_ne, ru_eq]
  | 12 => rw [setV_ne (by decide)]; simp (disch := omega) only [tv, ru_ne, ru_eq]
  | g + 13 => rw [setV_ne (by omega)]; simp (disch := omega) only [tv, ru_ne, ru_eq]
theorem tv_p5 {μ : Mem} {t x : Int} : tv (updm μ t 5 x) t = setP (tv μ t) 2 x := by
  funext g
  match g with
  | 0 => rw [setP_ne (by decide)]; simp (disch := omega) only [tv, ru_ne, ru_eq, r1_ne]
  | 1 => rw [setP_ne (by decide)]; simp (disch := omega) only [tv, ru_ne, ru_eq, r1_ne]
  | 2 => rw [setP_eq]; simp (disch := omega) only [tv, ru_eq, r1_eq]
  | 3 => rw [setP_ne (by decide)]; simp (disch := omega) only [tv, ru_ne, ru_eq, r1_ne]
  | 4 => rw [setP_ne (by decide)]; simp (disch := omega) only [tv, ru_ne, ru_eq, r1_ne]
  | 5 => rw [setP_ne (by decide)]; simp (disch := omega) only [tv, ru_ne, ru_eq, r1_ne]
  | 6 => rw [setP_ne (by decide)]; simp (disch := omega) only [tv, ru_ne, ru_eq, r1_ne]
  | 7 => rw [setP_ne (by decide)]; simp (disch := omega) only [tv, ru_ne, ru_eq, r1_ne]
  | 8 => rw [setP_ne (by decide)]; simp (disch := omega) only [tv, ru_ne, ru_eq, r1_ne]
  | 9 => rw [setP_ne (by decide)]; simp (disch := omega) only [tv, ru_ne, ru_eq, r1_ne]
  | 10 => rw [setP_ne (by decide)]; simp (disch := omega) only [tv, ru_ne, ru_eq, r1_ne]
  | 11 => rw [setP_ne (by decide)]; simp (disch := omega) only [tv, ru_ne, ru_eq, r1_ne]
  | 12 => rw [setP_ne (by decide)]; simp (disch := omega) only [tv, ru_ne, ru_eq, r1_ne]
  | g + 13 => rw [setP_ne (by omega)]; simp (disch := omega) only [tv, ru_ne, ru_eq, r1_ne]
theorem tv_p6 {μ : Mem} {t x : Int} : tv (updm μ t 6 x) t = setP (tv μ t) 3 x := by
  funext g
  match g with
  | 0 => rw [setP_ne (by decide)]; simp (disch := omega) only [tv, ru_ne, ru_eq, r1_ne]
  | 1 => rw [setP_ne (by decide)]; simp (disch := omega) only [tv, ru_ne, ru_eq, r1_ne]
  | 2 => rw [setP_ne (by decide)]; simp (disch := omega) only [tv, ru_ne, ru_eq, r1_ne]
  | 3 => rw [setP_eq]; simp (disch := omega) only [tv, ru_eq, r1_eq]
  | 4 => rw [setP_ne (by decide)]; simp (disch := omega) only [tv, ru_ne, ru_eq, r1_ne]
  | 5 => rw [setP_ne (by decide)]; simp (disch := omega) only [tv, ru_ne, ru_eq, r1_ne]
  | 6 => rw [setP_ne (by decide)]; simp (disch := omega) only [tv, ru_ne, ru_eq, r1_ne]
  | 7 => rw [setP_ne (by decide)]; simp (disch := omega) only [tv, ru_ne, ru_eq, r1_ne]
  | 8 => rw [setP_ne (by decide)]; simp (disch := omega) only [tv, ru_ne, ru_eq, r1_ne]
  | 9 => rw [setP_ne (by decide)]; simp (disch := omega) only [tv, ru_ne, ru_eq, r1_ne]
  | 10 => rw [setP_ne (by decide)]; simp (disch := omega) only [tv, ru_ne, ru_eq, r1_ne]
  | 11 => rw [setP_ne (by decide)]; simp (disch := omega) only [tv, ru_ne, ru_eq, r1_ne]
  | 12 => rw [setP_ne (by decide)]; simp (disch := omega) only [tv, ru_ne, ru_eq, r1_ne]
  | g + 13 => rw [setP_ne (by omega)]; simp (disch := omega) only [tv, ru_ne, ru_eq, r1_ne]
def P_X5_isNumber (o i lo hi : Int) (μ : Mem) : Prop := o = 145 ∧ r32 i ∧ TkB μ ∧ r32 (Vm μ i) ∧ r32 lo ∧ r32 hi
def Q_X5_isNumber (_ i lo hi : Int) (μ μ' : Mem) (r : Int) : Prop := (lo ≤ Vm μ i ∧ Vm μ i ≤ hi → r = 1 ∧ μ' = μ) ∧ (¬ (lo ≤ Vm μ i ∧ Vm μ i ≤ hi) → r = 0 ∧ μ' = updm (updm μ 145 4 2) 145 5 (Sm μ i))
def S_X5_isNumber : S0t := fun as μ Q => match as with
  | [(2, x0), (0, x1), (0, x2), (0, x3)] => P_X5_isNumber x0 x1 x2 x3 μ ∧ ∀ (μ' : Mem) (r : Int), Q_X5_isNumber x0 x1 x2 x3 μ μ' r → Q μ' (some (kI r))
  | _ => False
theorem mono_X5_isNumber : Mono S_X5_isNumber := by
  intro as μ Q Q' h hS
  unfold S_X5_isNumber at hS ⊢
  split at hS
  · exact ⟨hS.1, fun μ' r q => h _ _ (hS.2 _ _ q)⟩
  · exact hS.elim
def iX5_isNumber : Inf := (kX5_isNumber, fTX5, pTX5, cTX5, lTX5, sTX5, [(118, 0, 1, 5, S_X5_valueAt), (111, 0, 1, 5, S_X5_startAt), (114, 0, 2, 5, S_X5_refuse)])
theorem ok_X5_isNumber : infOK iX5_isNumber mX5_isNumber RX5 1 22 := ⟨kkX5_isNumber, fTX5_ok, pTX5_ok _, cTX5_ok, lTX5_ok, sTX5_ok, c_cons ⟨mX5_valueAt, 0, 0, ct_X5_valueAt, mmX5_valueAt, vvX5_valueAt, lkX5_118, ⟨by decide, by decide⟩, ⟨_, _, rfl⟩, by decide, mono_X5_valueAt⟩ (c_cons ⟨mX5_startAt, 0, 0, ct_X5_startAt, mmX5_startAt, vvX5_startAt, lkX5_111, ⟨by decide, by decide⟩, ⟨_, _, rfl⟩, by decide, mono_X5_startAt⟩ (c_cons ⟨mX5_refuse, 0, 0, ct_X5_refuse, mmX5_refuse, vvX5_refuse, lkX5_114, ⟨by decide, by decide⟩, ⟨_, _, rfl⟩, by decide, mono_X5_refuse⟩ (c_nil)))⟩
theorem mt_X5_isNumber : mtOK [] RX5 1 22 := mt_nil
abbrev V_X5_isNumber (R : Mem → Option AV → Prop) (pc : Nat) (lc : List (Nat × AV)) (μ : Mem) : Prop := VM mX5_isNumber RX5 1 22 R pc lc [] μ
set_option maxRecDepth 20000 in
theorem vc_X5_isNumber_0 {R : Mem → Option AV → Prop} {i lo hi : Int} {μ : Mem} (H : P_X5_valueAt 145 i μ ∧ r32 (F_X5_valueAt 145 i μ) ∧ r32 lo ∧ (((F_X5_valueAt 145 i μ) < lo) → P_X5_startAt 145 i μ ∧ P_X5_refuse 145 2 (F_X5_startAt 145 i μ) μ ∧ (∀ (μ1 : Mem) (rv2 : Int), Q_X5_refuse 145 2 (F_X5_startAt 145 i μ) μ μ1 rv2 → r32 rv2 ∧ ((rv2 = 0) → R μ1 (some (kI 0))) ∧ (¬ (rv2 = 0) → R μ1 (some (kI 1))))) ∧ (¬ ((F_X5_valueAt 145 i μ) < lo) → r32 (F_X5_valueAt 145 i μ) ∧ r32 hi ∧ (((F_X5_valueAt 145 i μ) ≤ hi) → R μ (some (kI 1))) ∧ (¬ ((F_X5_valueAt 145 i μ) ≤ hi) → P_X5_startAt 145 i μ ∧ P_X5_refuse 145 2 (F_X5_startAt 145 i μ) μ ∧ (∀ (μ5 : Mem) (rv6 : Int), Q_X5_refuse 145 2 (F_X5_startAt 145 i μ) μ μ5 rv6 → r32 rv6 ∧ ((rv6 = 0) → R μ5 (some (kI 0))) ∧ (¬ (rv6 = 0) → R μ5 (some (kI 1))))))) : V_X5_isNumber R 0 [(0, kR 145), (1, kI i), (2, kI lo), (3, kI hi)] μ := by
  refine vm_step2 mt_X5_isNumber ok_X5_isNumber [] 1000 ?_
  show isC 145 5 ∧ P_X5_valueAt 145 i μ ∧ (r32 (F_X5_valueAt 145 i μ) ∧ r32 lo) ∧ (((F_X5_valueAt 145 i μ) < lo) → isC 145 5 ∧ P_X5_startAt 145 i μ ∧ isC 145 5 ∧ P_X5_refuse 145 2 (F_X5_startAt 145 i μ) μ ∧ (∀ (μ1 : Mem) (rv2 : Int), Q_X5_refuse 145 2 (F_X5_startAt 145 i μ) μ μ1 rv2 → r32 rv2 ∧ ((rv2 = 0) → (0 ≤ (0 : Int) ∧ (0 : Int) ≤ 1) ∧ R μ1 (some (kI 0))) ∧ (¬ (rv2 = 0) → (0 ≤ (1 : Int) ∧ (1 : Int) ≤ 1) ∧ R μ1 (some (kI 1))))) ∧ (¬ ((F_X5_valueAt 145 i μ) < lo) → (r32 (F_X5_valueAt 145 i μ) ∧ r32 hi) ∧ (((F_X5_valueAt 145 i μ) ≤ hi) → (0 ≤ (1 : Int) ∧ (1 : Int) ≤ 1) ∧ R μ (some (kI 1))) ∧ (¬ ((F_X5_valueAt 145 i μ) ≤ hi) → isC 145 5 ∧ P_X5_startAt 145 i μ ∧ isC 145 5 ∧ P_X5_refuse 145 2 (F_X5_startAt 145 i μ) μ ∧ (∀ (μ5 : Mem) (rv6 : Int), Q_X5_refuse 145 2 (F_X5_startAt 145 i μ) μ μ5 rv6 → r32 rv6 ∧ ((rv6 = 0) → (0 ≤ (0 : Int) ∧ (0 : Int) ≤ 1) ∧ R μ5 (some (kI 0))) ∧ (¬ (rv6 = 0) → (0 ≤ (1 : Int) ∧ (1 : Int) ≤ 1) ∧ R μ5 (some (kI 1))))))
  exact ⟨c_145, H.1, ⟨⟨H.2.1, H.2.2.1⟩, fun hc10 => ⟨c_145, (H.2.2.2.1 hc10).1, ⟨c_145, (H.2.2.2.1 hc10).2.1, fun μ1 rv2 hq3 => ⟨((H.2.2.2.1 hc10).2.2 μ1 rv2 hq3).1, fun hc4 => ⟨⟨by omega, by omega⟩, (((H.2.2.2.1 hc10).2.2 μ1 rv2 hq3).2.1 hc4)⟩, fun hc4 => ⟨⟨by omega, by omega⟩, (((H.2.2.2.1 hc10).2.2 μ1 rv2 hq3).2.2 hc4)⟩⟩⟩⟩, fun hc10 => ⟨⟨(H.2.2.2.2 hc10).1, (H.2.2.2.2 hc10).2.1⟩, fun hc9 => ⟨⟨by omega, by omega⟩, ((H.2.2.2.2 hc10).2.2.1 hc9)⟩, fun hc9 => ⟨c_145, ((H.2.2.2.2 hc10).2.2.2 hc9).1, ⟨c_145, ((H.2.2.2.2 hc10).2.2.2 hc9).2.1, fun μ5 rv6 hq7 => ⟨(((H.2.2.2.2 hc10).2.2.2 hc9).2.2 μ5 rv6 hq7).1, fun hc8 => ⟨⟨by omega, by omega⟩, ((((H.2.2.2.2 hc10).2.2.2 hc9).2.2 μ5 rv6 hq7).2.1 hc8)⟩, fun hc8 => ⟨⟨by omega, by omega⟩, ((((H.2.2.2.2 hc10).2.2.2 hc9).2.2 μ5 rv6 hq7).2.2 hc8)⟩⟩⟩⟩⟩⟩⟩
theorem body_X5_isNumber {o i lo hi : Int} {μ : Mem} {R : Mem → Option AV → Prop} (h : P_X5_isNumber o i lo hi μ) (hR : ∀ (μ' : Mem) (r : Int), Q_X5_isNumber o i lo hi μ μ' r → R μ' (some (kI r))) : V_X5_isNumber R 0 [(0, kR o), (1, kI i), (2, kI lo), (3, kI hi)] μ := by
  obtain ⟨rfl, ri, hb, hv, rlo, rhi⟩ := h
  have sb := (Km_bd hb i).2
  have tb := hb.1
  have pv : P_X5_valueAt 145 i μ := ⟨rfl, ri, by omega⟩
  have ref : ¬ (lo ≤ Vm μ i ∧ Vm μ i ≤ hi) → P_X5_startAt 145 i μ ∧ P_X5_refuse 145 2 (F_X5_startAt 145 i μ) μ ∧ ∀ (μ1 : Mem) (rv2 : Int), Q_X5_refuse 145 2 (F_X5_startAt 145 i μ) μ μ1 rv2 → r32 rv2 ∧ ((rv2 = 0) → R μ1 (some (kI 0))) ∧ (¬ (rv2 = 0) → R μ1 (some (kI 1))) := by
    intro c
    refine ⟨⟨rfl, ri, by omega⟩, ⟨rfl, rr (by omega), ?_⟩, fun m r q => ?_⟩
    · show r32 (Sm μ i)
      exact rr (by omega)
    · obtain ⟨e1, e2⟩ := q
      subst e1
      exact ⟨rr (by omega), fun _ => hR m 0 ⟨fun q => absurd q c, fun _ => ⟨rfl, e2⟩⟩, fun q => absurd rfl q⟩
  refine vc_X5_isNumber_0 ?_
  have ev : F_X5_valueAt 145 i μ = Vm μ i := rfl
  rw [ev]
  exact ⟨pv, hv, rlo, fun c => ref (by omega), fun c => ⟨hv, rhi, fun c2 => hR μ 1 ⟨fun _ => ⟨rfl, rfl⟩, fun q => absurd ⟨by omega, c2⟩ q⟩, fun c2 => ref (by omega)⟩⟩
theorem ct_X5_isNumber : Ct mX5_isNumber 1 22 0 0 (nrmS S_X5_isNumber) := by
  refine ct_vm (own := RX5) (by decide +kernel) rfl ?_ ?_
  · intro as μ Q hS
    unfold S_X5_isNumber at hS
    split at hS
    · exact Nat.le_of_ble_eq_true rfl
    · exact hS.elim
  · intro as μ R hS
    unfold S_X5_isNumber at hS
    split at hS
    · exact body_X5_isNumber hS.1 hS.2
    · exact hS.elim
/-- what a step of reading leaves: none, or the fault and its place -/
def LR (μ μ' : Mem) (r : Int) (res : (Int × Int) × TV) : Prop := (res.1.1 = 0 → r = 1 ∧ tv μ' 135 = res.2 ∧ ∀ y : Int, (y < 135 ∨ 144 < y) → μ' y = μ y) ∧ (res.1.1 ≠ 0 → r = 0 ∧ μ' 145 4 = res.1.1 ∧ μ' 145 5 = res.1.2 ∧ (∀ f : Int, f ≠ 4 → f ≠ 5 → μ' 145 f = μ 145 f) ∧ ∀ y : Int, (y < 135 ∨ 145 < y) → μ' y = μ y)
theorem lr_ref {μ m1 m : Mem} {r k p : Int} {v : TV} (h : Q_X5_refuse 145 k p m1 m r) (hf : ∀ y : Int, (y < 135 ∨ 144 < y) → m1 y = μ y) (hk : k ≠ 0) : (0 ≤ r ∧ r ≤ 1) ∧ LR μ m r ((k, p), v) := by
  obtain ⟨e1, e2⟩ := h
  subst e1; subst e2
  refine ⟨by omega, fun c => absurd c hk, fun _ => ⟨rfl, ?_, ?_, fun f h4 h5 => ?_, fun y hy => ?_⟩⟩
  · rw [ru_eq, r1_ne (by omega), ru_eq, r1_eq]
  · rw [ru_eq, r1_eq]
  · rw [ru_eq, r1_ne h5, ru_eq, r1_ne h4, hf 145 (by omega)]
  · rw [ru_ne (by omega), ru_ne (by omega)]; exact hf y (by omega)
theorem rd_frame {μ m : Mem} (h : ∀ y : Int, (y < 135 ∨ 144 < y) → m y = μ y) : Km m = Km μ ∧ Sm m = Sm μ ∧ Vm m = Vm μ := by
  unfold Km Sm Vm
  rw [h 145 (by omega), h 146 (by omega), h 147 (by omega), h 148 (by omega)]
  exact ⟨rfl, rfl, rfl⟩
theorem TkB_frame {μ m : Mem} (hb : TkB μ) (h : ∀ y : Int, (y < 135 ∨ 144 < y) → m y = μ y) : TkB m := by
  unfold TkB
  rw [h 145 (by omega), h 146 (by omega), h 147 (by omega)]
  exact hb
def P_X5_takeOfPlace (o d i z lo hi : Int) (μ : Mem) : Prop := o = 145 ∧ d = 135 ∧ (z = 138 ∨ z = 139 ∨ z = 140) ∧ isArr z 0 8 ∧ (0 ≤ i ∧ i ≤ 600) ∧ TkB μ ∧ TB μ 135 ∧ r32 (Vm μ (i + 1)) ∧ r32 (Vm μ (i + 2)) ∧ r32 lo ∧ r32 hi
def Q_X5_takeOfPlace (_ _ i z lo hi : Int) (μ μ' : Mem) (r : Int) : Prop := (0 ≤ r ∧ r ≤ 1) ∧ LR μ μ' r (plcV (Sm μ) (Vm μ) i (tv μ 135) (z - 134).toNat lo hi)
def S_X5_takeOfPlace : S0t := fun as μ Q => match as with
  | [(2, x0), (2, x1), (0, x2), (2, x3), (0, x4), (0, x5)] => P_X5_takeOfPlace x0 x1 x2 x3 x4 x5 μ ∧ ∀ (μ' : Mem) (r : Int), Q_X5_takeOfPlace x0 x1 x2 x3 x4 x5 μ μ' r → Q μ' (some (kI r))
  | _ => False
theorem mono_X5_takeOfPlace : Mono S_X5_takeOfPlace := by
  intro as μ Q Q' h hS
  unfold S_X5_takeOfPlace at hS ⊢
  split at hS
  · exact ⟨hS.1, fun μ' r q => h _ _ (hS.2 _ _ q)⟩
  · exact hS.elim
def iX5_takeOfPlace : Inf := (kX5_takeOfPlace, fTX5, pTX5, cTX5, lTX5, sTX5, [(118, 0, 1, 5, S_X5_valueAt), (159, 0, 1, 7, S_X7_has), (111, 0, 1, 5, S_X5_startAt), (114, 0, 2, 5, S_X5_refuse), (149, 0, 3, 5, S_X5_isNumber)])
theorem ok_X5_takeOfPlace : infOK iX5_takeOfPlace mX5_takeOfPlace RX5 2 46 := ⟨kkX5_takeOfPlace, fTX5_ok, pTX5_ok _, cTX5_ok, lTX5_ok, sTX5_ok, c_cons ⟨mX5_valueAt, 0, 0, ct_X5_valueAt, mmX5_valueAt, vvX5_valueAt, lkX5_118, ⟨by decide, by decide⟩, ⟨_, _, rfl⟩, by decide, mono_X5_valueAt⟩ (c_cons ⟨mX7_has, 0, 0, ct_X7_has, mmX7_has, vvX7_has, lkX5_159, ⟨by decide, by decide⟩, ⟨_, _, rfl⟩, by decide, mono_X7_has⟩ (c_cons ⟨mX5_startAt, 0, 0, ct_X5_startAt, mmX5_startAt, vvX5_startAt, lkX5_111, ⟨by decide, by decide⟩, ⟨_, _, rfl⟩, by decide, mono_X5_startAt⟩ (c_cons ⟨mX5_refuse, 0, 0, ct_X5_refuse, mmX5_refuse, vvX5_refuse, lkX5_114, ⟨by decide, by decide⟩, ⟨_, _, rfl⟩, by decide, mono_X5_refuse⟩ (c_cons ⟨mX5_isNumber, 1, 22, ct_X5_isNumber, mmX5_isNumber, vvX5_isNumber, lkX5_149, ⟨by decide, by decide⟩, ⟨_, _, rfl⟩, by decide, mono_X5_isNumber⟩ (c_nil)))))⟩
theorem mt_X5_takeOfPlace : mtOK [] RX5 2 46 := mt_nil
abbrev V_X5_takeOfPlace (R : Mem → Option AV → Prop) (pc : Nat) (lc : List (Nat × AV)) (μ : Mem) : Prop := VM mX5_takeOfPlace RX5 2 46 R pc lc [] μ
set_option maxRecDepth 20000 in
theorem vc_X5_takeOfPlace_0 {R : Mem → Option AV → Prop} {i lo hi z : Int} {μ : Mem} (hz : isArr z 0 8) (H : P_X5_valueAt 145 (i + 1) μ ∧ P_X7_has 135 (F_X5_valueAt 145 (i + 1) μ) μ ∧ r32 (F_X7_has 135 (F_X5_valueAt 145 (i + 1) μ) μ) ∧ (((F_X7_has 135 (F_X5_valueAt 145 (i + 1) μ) μ) = 0) → P_X5_startAt 145 (i + 1) μ ∧ P_X5_refuse 145 2 (F_X5_startAt 145 (i + 1) μ) μ ∧ (∀ (μ1 : Mem) (rv2 : Int), Q_X5_refuse 145 2 (F_X5_startAt 145 (i + 1) μ) μ μ1 rv2 → (0 ≤ rv2 ∧ rv2 ≤ 1) ∧ R μ1 (some (kI rv2)))) ∧ (¬ ((F_X7_has 135 (F_X5_valueAt 145 (i + 1) μ) μ) = 0) → r32 (F_X5_valueAt 145 (i + 1) μ) ∧ (((F_X5_valueAt 145 (i + 1) μ) < (8 : Int)) → P_X5_valueAt 145 (i + 2) μ ∧ (0 ≤ (F_X5_valueAt 145 (i + 1) μ) ∧ (F_X5_valueAt 145 (i + 1) μ) < 8) ∧ V_X5_takeOfPlace R 49 [(0, kR 145), (2, kI i), (4, kI lo), (5, kI hi)] (updm μ z (F_X5_valueAt 145 (i + 1) μ) (F_X5_valueAt 145 (i + 2) μ))) ∧ (¬ ((F_X5_valueAt 145 (i + 1) μ) < (8 : Int)) → P_X5_startAt 145 (i + 1) μ ∧ P_X5_refuse 145 2 (F_X5_startAt 145 (i + 1) μ) μ ∧ (∀ (μ4 : Mem) (rv5 : Int), Q_X5_refuse 145 2 (F_X5_startAt 145 (i + 1) μ) μ μ4 rv5 → (0 ≤ rv5 ∧ rv5 ≤ 1) ∧ R μ4 (some (kI rv5)))))) : V_X5_takeOfPlace R 0 [(0, kR 145), (1, kR 135), (2, kI i), (3, kR z), (4, kI lo), (5, kI hi)] μ := by
  refine vm_step2 mt_X5_takeOfPlace ok_X5_takeOfPlace [(49, [0, 2, 4, 5])] 1000 ?_
  show isC 145 5 ∧ P_X5_valueAt 145 (i + 1) μ ∧ isC 135 7 ∧ P_X7_has 135 (F_X5_valueAt 145 (i + 1) μ) μ ∧ r32 (F_X7_has 135 (F_X5_valueAt 145 (i + 1) μ) μ) ∧ (((F_X7_has 135 (F_X5_valueAt 145 (i + 1) μ) μ) = 0) → isC 145 5 ∧ P_X5_startAt 145 (i + 1) μ ∧ isC 145 5 ∧ P_X5_refuse 145 2 (F_X5_startAt 145 (i + 1) μ) μ ∧ (∀ (μ1 : Mem) (rv2 : Int), Q_X5_refuse 145 2 (F_X5_startAt 145 (i + 1) μ) μ μ1 rv2 → (0 ≤ rv2 ∧ rv2 ≤ 1) ∧ R μ1 (some (kI rv2)))) ∧ (¬ ((F_X7_has 135 (F_X5_valueAt 145 (i + 1) μ) μ) = 0) → ((0 ≤ z ∧ z < 232) ∧ (LAY z.toNat).1 ≤ 3) ∧ (r32 (F_X5_valueAt 145 (i + 1) μ) ∧ r32 (((LAY z.toNat).2 : Int))) ∧ (((F_X5_valueAt 145 (i + 1) μ) < (((LAY z.toNat).2 : Int))) → isC 145 5 ∧ P_X5_valueAt 145 (i + 2) μ ∧ inA z 0 (F_X5_valueAt 145 (i + 1) μ) ∧ V_X5_takeOfPlace R 49 [(0, kR 145), (2, kI i), (4, kI lo), (5, kI hi)] (updm μ z (F_X5_valueAt 145 (i + 1) μ) (F_X5_valueAt 145 (i + 2) μ))) ∧ (¬ ((F_X5_valueAt 145 (i + 1) μ) < (((LAY z.toNat).2 : Int))) → isC 145 5 ∧ P_X5_startAt 145 (i + 1) μ ∧ isC 145 5 ∧ P_X5_refuse 145 2 (F_X5_startAt 145 (i + 1) μ) μ ∧ (∀ (μ8 : Mem) (rv9 : Int), Q_X5_refuse 145 2 (F_X5_startAt 145 (i + 1) μ) μ μ8 rv9 → (0 ≤ rv9 ∧ rv9 ≤ 1) ∧ R μ8 (some (kI rv9)))))
  exact ⟨c_145, H.1, ⟨c_135, H.2.1, ⟨H.2.2.1, fun hc12 => ⟨c_145, (H.2.2.2.1 hc12).1, ⟨c_145, (H.2.2.2.1 hc12).2.1, fun μ1 rv2 hq3 => ((H.2.2.2.1 hc12).2.2 μ1 rv2 hq3)⟩⟩, fun hc12 => ⟨⟨hz.1, by rw [hz.2]; exact Nat.zero_le 3⟩, by rw [hz.2]; exact ⟨⟨(H.2.2.2.2 hc12).1, by unfold r32; omega⟩, fun hc7 => ⟨c_145, ((H.2.2.2.2 hc12).2.1 hc7).1, ⟨isArr.in hz ((H.2.2.2.2 hc12).2.1 hc7).2.1.1 ((H.2.2.2.2 hc12).2.1 hc7).2.1.2, ((H.2.2.2.2 hc12).2.1 hc7).2.2⟩⟩, fun hc7 => ⟨c_145, ((H.2.2.2.2 hc12).2.2 hc7).1, ⟨c_145, ((H.2.2.2.2 hc12).2.2 hc7).2.1, fun μ4 rv5 hq6 => (((H.2.2.2.2 hc12).2.2 hc7).2.2 μ4 rv5 hq6)⟩⟩⟩⟩⟩⟩⟩
set_option maxRecDepth 20000 in
theorem vc_X5_takeOfPlace_49 {R : Mem → Option AV → Prop} {i lo hi z : Int} {μ : Mem} (hz : isArr z 0 8) (H : P_X5_isNumber 145 (i + 2) lo hi μ ∧ (∀ (μ13 : Mem) (rv14 : Int), Q_X5_isNumber 145 (i + 2) lo hi μ μ13 rv14 → (0 ≤ rv14 ∧ rv14 ≤ 1) ∧ R μ13 (some (kI rv14)))) : V_X5_takeOfPlace R 49 [(0, kR 145), (2, kI i), (4, kI lo), (5, kI hi)] μ := by
  refine vm_step2 mt_X5_takeOfPlace ok_X5_takeOfPlace [(49, [0, 2, 4, 5])] 1000 ?_
  show isC 145 5 ∧ P_X5_isNumber 145 (i + 2) lo hi μ ∧ (∀ (μ13 : Mem) (rv14 : Int), Q_X5_isNumber 145 (i + 2) lo hi μ μ13 rv14 → (0 ≤ rv14 ∧ rv14 ≤ 1) ∧ R μ13 (some (kI rv14)))
  exact ⟨c_145, H.1, fun μ13 rv14 hq15 => (H.2 μ13 rv14 hq15)⟩
theorem body_X5_takeOfPlace {o d i z lo hi : Int} {μ : Mem} {R : Mem → Option AV → Prop} (h : P_X5_takeOfPlace o d i z lo hi μ) (hR : ∀ (μ' : Mem) (r : Int), Q_X5_takeOfPlace o d i z lo hi μ μ' r → R μ' (some (kI r))) : V_X5_takeOfPlace R 0 [(0, kR o), (1, kR d), (2, kI i), (3, kR z), (4, kI lo), (5, kI hi)] μ := by
  obtain ⟨rfl, rfl, hz, hza, hi6, hb, hT, v1, v2, rlo, rhi⟩ := h
  have tb := hb.1
  have hp : 2 ≤ μ 135 1 ∧ μ 135 1 ≤ 8 := hT.2.1
  have hpe : tv μ 135 0 0 = μ 135 1 := rfl
  have s1 := (Km_bd hb (i + 1)).2
  have pv : ∀ j : Int, 0 ≤ j → j ≤ 1000 → P_X5_valueAt 145 j μ := fun j j0 j1 => ⟨rfl, rr (by omega), by omega⟩
  unfold Q_X5_takeOfPlace plcV at hR
  rw [hpe] at hR
  have e1 : F_X5_valueAt 145 (i + 1) μ = Vm μ (i + 1) := rfl
  have e2 : F_X5_valueAt 145 (i + 2) μ = Vm μ (i + 2) := rfl
  have ref : ¬ (0 ≤ Vm μ (i + 1) ∧ Vm μ (i + 1) < μ 135 1) → P_X5_startAt 145 (i + 1) μ ∧ P_X5_refuse 145 2 (F_X5_startAt 145 (i + 1) μ) μ ∧ ∀ (μ1 : Mem) (rv2 : Int), Q_X5_refuse 145 2 (F_X5_startAt 145 (i + 1) μ) μ μ1 rv2 → (0 ≤ rv2 ∧ rv2 ≤ 1) ∧ R μ1 (some (kI rv2)) := by
    intro c
    rw [if_pos c] at hR
    refine ⟨⟨rfl, rr (by omega), by omega⟩, ⟨rfl, rr (by omega), ?_⟩, fun m r q => ?_⟩
    · show r32 (Sm μ (i + 1))
      exact rr (by omega)
    · have h := lr_ref (v := tv μ 135) q (fun _ _ => rfl) (show (2 : Int) ≠ 0 by omega)
      exact ⟨h.1, hR m r h⟩
  refine vc_X5_takeOfPlace_0 hza ?_
  unfold F_X7_has
  rw [e1, e2]
  refine ⟨pv _ (by omega) (by omega), ⟨t_135, v1, hp⟩, ?_⟩
  by_cases c : 0 ≤ Vm μ (i + 1) ∧ Vm μ (i + 1) < μ 135 1
  · rw [if_pos c]
    rw [if_neg (fun q => q c)] at hR
    refine ⟨rr (by omega), fun q => absurd q (by omega), fun _ => ⟨v1, fun c8 => ⟨pv _ (by omega) (by omega), by omega, vc_X5_takeOfPlace_49 hza ?_⟩, fun c8 => absurd (show Vm μ (i + 1) < 8 by omega) c8⟩⟩
    have hf : ∀ y : Int, (y < 135 ∨ 144 < y) → updm μ z (Vm μ (i + 1)) (Vm μ (i + 2)) y = μ y := fun y hy => ru_ne (by omega)
    have htv : tv (updm μ z (Vm μ (i + 1)) (Vm μ (i + 2))) 135 = setV (tv μ 135) (z - 134).toNat (Vm μ (i + 1)) (Vm μ (i + 2)) := by
      rcases hz with e | e | e <;> subst e
      · exact tv_s3 (t := 135) c.1 (by omega)
      · exact tv_s4 (t := 135) c.1 (by omega)
      · exact tv_s5 (t := 135) c.1 (by omega)
    generalize updm μ z (Vm μ (i + 1)) (Vm μ (i + 2)) = m1 at hf htv
    have hfr := rd_frame hf
    refine ⟨⟨rfl, rr (by omega), TkB_frame hb hf, by rw [hfr.2.2]; exact v2, rlo, rhi⟩, fun m r q => ?_⟩
    unfold Q_X5_isNumber at q
    rw [hfr.2.2, hfr.2.1] at q
    by_cases c2 : lo ≤ Vm μ (i + 2) ∧ Vm μ (i + 2) ≤ hi
    · obtain ⟨q1, q2⟩ := q.1 c2
      rw [if_neg (fun q => q c2)] at hR
      subst q1; subst q2
      exact ⟨by omega, hR m 1 ⟨by omega, fun _ => ⟨rfl, htv, hf⟩, fun q => absurd rfl q⟩⟩
    · rw [if_pos c2] at hR
      have h := lr_ref (v := tv μ 135) (q.2 c2) hf (show (2 : Int) ≠ 0 by omega)
      exact ⟨h.1, hR m r h⟩
  · rw [if_neg c]
    exact ⟨rr (by omega), fun _ => ref c, fun q => absurd rfl q⟩
theorem ct_X5_takeOfPlace : Ct mX5_takeOfPlace 2 46 0 0 (nrmS S_X5_takeOfPlace) := by
  refine ct_vm (own := RX5) (by decide +kernel) rfl ?_ ?_
  · intro as μ Q hS
    unfold S_X5_takeOfPlace at hS
    split at hS
    · exact Nat.le_of_ble_eq_true rfl
    · exact hS.elim
  · intro as μ R hS
    unfold S_X5_takeOfPlace at hS
    split at hS
    · exact body_X5_takeOfPlace hS.1 hS.2
    · exact hS.elim
def P_X5_takeLane (o d i : Int) (μ : Mem) : Prop := o = 145 ∧ d = 135 ∧ (0 ≤ i ∧ i ≤ 600) ∧ TkB μ ∧ TB μ 135 ∧ (0 ≤ μ 135 2 ∧ μ 135 2 ≤ 20) ∧ r32 (Vm μ (i + 1)) ∧ r32 (Vm μ (i + 2)) ∧ r32 (Vm μ (i + 3))
def Q_X5_takeLane (_ _ i : Int) (μ μ' : Mem) (r : Int) : Prop := (0 ≤ r ∧ r ≤ 1) ∧ LR μ μ' r (lanV (Sm μ) (Vm μ) i (tv μ 135))
def S_X5_takeLane : S0t := fun as μ Q => match as with
  | [(2, x0), (2, x1), (0, x2)] => P_X5_takeLane x0 x1 x2 μ ∧ ∀ (μ' : Mem) (r : Int), Q_X5_takeLane x0 x1 x2 μ μ' r → Q μ' (some (kI r))
  | _ => False
theorem mono_X5_takeLane : Mono S_X5_takeLane := by
  intro as μ Q Q' h hS
  unfold S_X5_takeLane at hS ⊢
  split at hS
  · exact ⟨hS.1, fun μ' r q => h _ _ (hS.2 _ _ q)⟩
  · exact hS.elim
def iX5_takeLane : Inf := (kX5_takeLane, fTX5, pTX5, cTX5, lTX5, sTX5, [(118, 0, 1, 5, S_X5_valueAt), (111, 0, 1, 5, S_X5_startAt), (114, 0, 2, 5, S_X5_refuse), (159, 0, 1, 7, S_X7_has), (149, 0, 3, 5, S_X5_isNumber), (166, 0, 3, 7, S_X7_addLane), (163, 0, 2, 7, S_X7_hasLane)])
theorem ok_X5_takeLane : infOK iX5_takeLane mX5_takeLane RX5 2 46 := ⟨kkX5_takeLane, fTX5_ok, pTX5_ok _, cTX5_ok, lTX5_ok, sTX5_ok, c_cons ⟨mX5_valueAt, 0, 0, ct_X5_valueAt, mmX5_valueAt, vvX5_valueAt, lkX5_118, ⟨by decide, by decide⟩, ⟨_, _, rfl⟩, by decide, mono_X5_valueAt⟩ (c_cons ⟨mX5_startAt, 0, 0, ct_X5_startAt, mmX5_startAt, vvX5_startAt, lkX5_111, ⟨by decide, by decide⟩, ⟨_, _, rfl⟩, by decide, mono_X5_startAt⟩ (c_cons ⟨mX5_refuse, 0, 0, ct_X5_refuse, mmX5_refuse, vvX5_refuse, lkX5_114, ⟨by decide, by decide⟩, ⟨_, _, rfl⟩, by decide, mono_X5_refuse⟩ (c_cons ⟨mX7_has, 0, 0, ct_X7_has, mmX7_has, vvX7_has, lkX5_159, ⟨by decide, by decide⟩, ⟨_, _, rfl⟩, by decide, mono_X7_has⟩ (c_cons ⟨mX5_isNumber, 1, 22, ct_X5_isNumber, mmX5_isNumber, vvX5_isNumber, lkX5_149, ⟨by decide, by decide⟩, ⟨_, _, rfl⟩, by decide, mono_X5_isNumber⟩ (c_cons ⟨mX7_addLane, 0, 0, ct_X7_addLane, mmX7_addLane, vvX7_addLane, lkX5_166, ⟨by decide, by decide⟩, ⟨_, _, rfl⟩, by decide, mono_X7_addLane⟩ (c_cons ⟨mX7_hasLane, 0, 0, ct_X7_hasLane, mmX7_hasLane, vvX7_hasLane, lkX5_163, ⟨by decide, by decide⟩, ⟨_, _, rfl⟩, by decide, mono_X7_hasLane⟩ (c_nil)))))))⟩
theorem mt_X5_takeLane : mtOK [] RX5 2 46 := mt_nil
abbrev V_X5_takeLane (R : Mem → Option AV → Prop) (pc : Nat) (lc : List (Nat × AV)) (μ : Mem) : Prop := VM mX5_takeLane RX5 2 46 R pc lc [] μ
set_option maxRecDepth 20000 in
theorem vc_X5_takeLane_0 {R : Mem → Option AV → Prop} {i : Int} {μ : Mem} (H : P_X5_valueAt 145 (i + 1) μ ∧ P_X5_valueAt 145 (i + 2) μ ∧ r32 (μ 135 2) ∧ (((20 : Int) ≤ (μ 135 2)) → P_X5_startAt 145 i μ ∧ P_X5_refuse 145 3 (F_X5_startAt 145 i μ) μ ∧ (∀ (μ1 : Mem) (rv2 : Int), Q_X5_refuse 145 3 (F_X5_startAt 145 i μ) μ μ1 rv2 → (0 ≤ rv2 ∧ rv2 ≤ 1) ∧ R μ1 (some (kI rv2)))) ∧ (¬ ((20 : Int) ≤ (μ 135 2)) → P_X7_has 135 (F_X5_valueAt 145 (i + 1) μ) μ ∧ r32 (F_X7_has 135 (F_X5_valueAt 145 (i + 1) μ) μ) ∧ (((F_X7_has 135 (F_X5_valueAt 145 (i + 1) μ) μ) = 0) → P_X7_has 135 (F_X5_valueAt 145 (i + 1) μ) μ ∧ r32 (F_X7_has 135 (F_X5_valueAt 145 (i + 1) μ) μ) ∧ ((¬ (F_X7_has 135 (F_X5_valueAt 145 (i + 1) μ) μ) = 0) → P_X7_has 135 (F_X5_valueAt 145 (i + 2) μ) μ ∧ r32 (F_X7_has 135 (F_X5_valueAt 145 (i + 2) μ) μ) ∧ (((F_X7_has 135 (F_X5_valueAt 145 (i + 2) μ) μ) = 0) → P_X5_startAt 145 (i + 2) μ ∧ P_X5_refuse 145 2 (F_X5_startAt 145 (i + 2) μ) μ ∧ (∀ (μ4 : Mem) (rv5 : Int), Q_X5_refuse 145 2 (F_X5_startAt 145 (i + 2) μ) μ μ4 rv5 → (0 ≤ rv5 ∧ rv5 ≤ 1) ∧ R μ4 (some (kI rv5)))) ∧ (¬ ((F_X7_has 135 (F_X5_valueAt 145 (i + 2) μ) μ) = 0) → r32 (F_X5_valueAt 145 (i + 1) μ) ∧ r32 (F_X5_valueAt 145 (i + 2) μ) ∧ ((¬ (F_X5_valueAt 145 (i + 1) μ) = (F_X5_valueAt 145 (i + 2) μ)) → P_X5_isNumber 145 (i + 3) 1 20 μ ∧ (∀ (μ7 : Mem) (rv8 : Int), Q_X5_isNumber 145 (i + 3) 1 20 μ μ7 rv8 → r32 rv8 ∧ ((¬ rv8 = 0) → P_X5_valueAt 145 (i + 3) μ7 ∧ P_X7_addLane 135 (F_X5_valueAt 145 (i + 1) μ) (F_X5_valueAt 145 (i + 2) μ) (F_X5_valueAt 145 (i + 3) μ7) μ7 ∧ (∀ (μ10 : Mem), Q_X7_addLane 135 (F_X5_valueAt 145 (i + 1) μ) (F_X5_valueAt 145 (i + 2) μ) (F_X5_valueAt 145 (i + 3) μ7) μ7 μ10 → V_X5_takeLane R 142 [] μ10)) ∧ (¬ (¬ rv8 = 0) → R μ7 (some (kI 0))))) ∧ (¬ (¬ (F_X5_valueAt 145 (i + 1) μ) = (F_X5_valueAt 145 (i + 2) μ)) → P_X5_startAt 145 (i + 2) μ ∧ P_X5_refuse 145 2 (F_X5_startAt 145 (i + 2) μ) μ ∧ (∀ (μ14 : Mem) (rv15 : Int), Q_X5_refuse 145 2 (F_X5_startAt 145 (i + 2) μ) μ μ14 rv15 → (0 ≤ rv15 ∧ rv15 ≤ 1) ∧ R μ14 (some (kI rv15)))))) ∧ (¬ (¬ (F_X7_has 135 (F_X5_valueAt 145 (i + 1) μ) μ) = 0) → P_X5_startAt 145 (i + 1) μ ∧ P_X5_refuse 145 2 (F_X5_startAt 145 (i + 1) μ) μ ∧ (∀ (μ19 : Mem) (rv20 : Int), Q_X5_refuse 145 2 (F_X5_startAt 145 (i + 1) μ) μ μ19 rv20 → (0 ≤ rv20 ∧ rv20 ≤ 1) ∧ R μ19 (some (kI rv20))))) ∧ (¬ ((F_X7_has 135 (F_X5_valueAt 145 (i + 1) μ) μ) = 0) → P_X7_has 135 (F_X5_valueAt 145 (i + 2) μ) μ ∧ r32 (F_X7_has 135 (F_X5_valueAt 145 (i + 2) μ) μ) ∧ (((F_X7_has 135 (F_X5_valueAt 145 (i + 2) μ) μ) = 0) → P_X7_has 135 (F_X5_valueAt 145 (i + 1) μ) μ ∧ r32 (F_X7_has 135 (F_X5_valueAt 145 (i + 1) μ) μ) ∧ ((¬ (F_X7_has 135 (F_X5_valueAt 145 (i + 1) μ) μ) = 0) → P_X7_has 135 (F_X5_valueAt 145 (i + 2) μ) μ ∧ r32 (F_X7_has 135 (F_X5_valueAt 145 (i + 2) μ) μ) ∧ (((F_X7_has 135 (F_X5_valueAt 145 (i + 2) μ) μ) = 0) → P_X5_startAt 145 (i + 2) μ ∧ P_X5_refuse 145 2 (F_X5_startAt 145 (i + 2) μ) μ ∧ (∀ (μ23 : Mem) (rv24 : Int), Q_X5_refuse 145 2 (F_X5_startAt 145 (i + 2) μ) μ μ23 rv24 → (0 ≤ rv24 ∧ rv24 ≤ 1) ∧ R μ23 (some (kI rv24)))) ∧ (¬ ((F_X7_has 135 (F_X5_valueAt 145 (i + 2) μ) μ) = 0) → r32 (F_X5_valueAt 145 (i + 1) μ) ∧ r32 (F_X5_valueAt 145 (i + 2) μ) ∧ ((¬ (F_X5_valueAt 145 (i + 1) μ) = (F_X5_valueAt 145 (i + 2) μ)) → P_X5_isNumber 145 (i + 3) 1 20 μ ∧ (∀ (μ26 : Mem) (rv27 : Int), Q_X5_isNumber 145 (i + 3) 1 20 μ μ26 rv27 → r32 rv27 ∧ ((¬ rv27 = 0) → P_X5_valueAt 145 (i + 3) μ26 ∧ P_X7_addLane 135 (F_X5_valueAt 145 (i + 1) μ) (F_X5_valueAt 145 (i + 2) μ) (F_X5_valueAt 145 (i + 3) μ26) μ26 ∧ (∀ (μ29 : Mem), Q_X7_addLane 135 (F_X5_valueAt 145 (i + 1) μ) (F_X5_valueAt 145 (i + 2) μ) (F_X5_valueAt 145 (i + 3) μ26) μ26 μ29 → V_X5_takeLane R 142 [] μ29)) ∧ (¬ (¬ rv27 = 0) → R μ26 (some (kI 0))))) ∧ (¬ (¬ (F_X5_valueAt 145 (i + 1) μ) = (F_X5_valueAt 145 (i + 2) μ)) → P_X5_startAt 145 (i + 2) μ ∧ P_X5_refuse 145 2 (F_X5_startAt 145 (i + 2) μ) μ ∧ (∀ (μ33 : Mem) (rv34 : Int), Q_X5_refuse 145 2 (F_X5_startAt 145 (i + 2) μ) μ μ33 rv34 → (0 ≤ rv34 ∧ rv34 ≤ 1) ∧ R μ33 (some (kI rv34)))))) ∧ (¬ (¬ (F_X7_has 135 (F_X5_valueAt 145 (i + 1) μ) μ) = 0) → P_X5_startAt 145 (i + 1) μ ∧ P_X5_refuse 145 2 (F_X5_startAt 145 (i + 1) μ) μ ∧ (∀ (μ38 : Mem) (rv39 : Int), Q_X5_refuse 145 2 (F_X5_startAt 145 (i + 1) μ) μ μ38 rv39 → (0 ≤ rv39 ∧ rv39 ≤ 1) ∧ R μ38 (some (kI rv39))))) ∧ (¬ ((F_X7_has 135 (F_X5_valueAt 145 (i + 2) μ) μ) = 0) → P_X7_hasLane 135 (F_X5_valueAt 145 (i + 1) μ) (F_X5_valueAt 145 (i + 2) μ) μ ∧ r32 (F_X7_hasLane 135 (F_X5_valueAt 145 (i + 1) μ) (F_X5_valueAt 145 (i + 2) μ) μ) ∧ (((F_X7_hasLane 135 (F_X5_valueAt 145 (i + 1) μ) (F_X5_valueAt 145 (i + 2) μ) μ) = 0) → P_X7_has 135 (F_X5_valueAt 145 (i + 1) μ) μ ∧ r32 (F_X7_has 135 (F_X5_valueAt 145 (i + 1) μ) μ) ∧ ((¬ (F_X7_has 135 (F_X5_valueAt 145 (i + 1) μ) μ) = 0) → P_X7_has 135 (F_X5_valueAt 145 (i + 2) μ) μ ∧ r32 (F_X7_has 135 (F_X5_valueAt 145 (i + 2) μ) μ) ∧ (((F_X7_has 135 (F_X5_valueAt 145 (i + 2) μ) μ) = 0) → P_X5_startAt 145 (i + 2) μ ∧ P_X5_refuse 145 2 (F_X5_startAt 145 (i + 2) μ) μ ∧ (∀ (μ42 : Mem) (rv43 : Int), Q_X5_refuse 145 2 (F_X5_startAt 145 (i + 2) μ) μ μ42 rv43 → (0 ≤ rv43 ∧ rv43 ≤ 1) ∧ R μ42 (some (kI rv43)))) ∧ (¬ ((F_X7_has 135 (F_X5_valueAt 145 (i + 2) μ) μ) = 0) → r32 (F_X5_valueAt 145 (i + 1) μ) ∧ r32 (F_X5_valueAt 145 (i + 2) μ) ∧ ((¬ (F_X5_valueAt 145 (i + 1) μ) = (F_X5_valueAt 145 (i + 2) μ)) → P_X5_isNumber 145 (i + 3) 1 20 μ ∧ (∀ (μ45 : Mem) (rv46 : Int), Q_X5_isNumber 145 (i + 3) 1 20 μ μ45 rv46 → r32 rv46 ∧ ((¬ rv46 = 0) → P_X5_valueAt 145 (i + 3) μ45 ∧ P_X7_addLane 135 (F_X5_valueAt 145 (i + 1) μ) (F_X5_valueAt 145 (i + 2) μ) (F_X5_valueAt 145 (i + 3) μ45) μ45 ∧ (∀ (μ48 : Mem), Q_X7_addLane 135 (F_X5_valueAt 145 (i + 1) μ) (F_X5_valueAt 145 (i + 2) μ) (F_X5_valueAt 145 (i + 3) μ45) μ45 μ48 → V_X5_takeLane R 142 [] μ48)) ∧ (¬ (¬ rv46 = 0) → R μ45 (some (kI 0))))) ∧ (¬ (¬ (F_X5_valueAt 145 (i + 1) μ) = (F_X5_valueAt 145 (i + 2) μ)) → P_X5_startAt 145 (i + 2) μ ∧ P_X5_refuse 145 2 (F_X5_startAt 145 (i + 2) μ) μ ∧ (∀ (μ52 : Mem) (rv53 : Int), Q_X5_refuse 145 2 (F_X5_startAt 145 (i + 2) μ) μ μ52 rv53 → (0 ≤ rv53 ∧ rv53 ≤ 1) ∧ R μ52 (some (kI rv53)))))) ∧ (¬ (¬ (F_X7_has 135 (F_X5_valueAt 145 (i + 1) μ) μ) = 0) → P_X5_startAt 145 (i + 1) μ ∧ P_X5_refuse 145 2 (F_X5_startAt 145 (i + 1) μ) μ ∧ (∀ (μ57 : Mem) (rv58 : Int), Q_X5_refuse 145 2 (F_X5_startAt 145 (i + 1) μ) μ μ57 rv58 → (0 ≤ rv58 ∧ rv58 ≤ 1) ∧ R μ57 (some (kI rv58))))) ∧ (¬ ((F_X7_hasLane 135 (F_X5_valueAt 145 (i + 1) μ) (F_X5_valueAt 145 (i + 2) μ) μ) = 0) → P_X5_startAt 145 i μ ∧ P_X5_refuse 145 3 (F_X5_startAt 145 i μ) μ ∧ (∀ (μ61 : Mem) (rv62 : Int), Q_X5_refuse 145 3 (F_X5_startAt 145 i μ) μ μ61 rv62 → (0 ≤ rv62 ∧ rv62 ≤ 1) ∧ R μ61 (some (kI rv62)))))))) : V_X5_takeLane R 0 [(0, kR 145), (1, kR 135), (2, kI i)] μ := by
  refine vm_step2 mt_X5_takeLane ok_X5_takeLane [(142, [])] 1000 ?_
  show isC 145 5 ∧ P_X5_valueAt 145 (i + 1) μ ∧ isC 145 5 ∧ P_X5_valueAt 145 (i + 2) μ ∧ isC 135 7 ∧ (r32 (μ 135 2) ∧ r32 (20 : Int)) ∧ (((20 : Int) ≤ (μ 135 2)) → isC 145 5 ∧ P_X5_startAt 145 i μ ∧ isC 145 5 ∧ P_X5_refuse 145 3 (F_X5_startAt 145 i μ) μ ∧ (∀ (μ1 : Mem) (rv2 : Int), Q_X5_refuse 145 3 (F_X5_startAt 145 i μ) μ μ1 rv2 → (0 ≤ rv2 ∧ rv2 ≤ 1) ∧ R μ1 (some (kI rv2)))) ∧ (¬ ((20 : Int) ≤ (μ 135 2)) → isC 135 7 ∧ P_X7_has 135 (F_X5_valueAt 145 (i + 1) μ) μ ∧ r32 (F_X7_has 135 (F_X5_valueAt 145 (i + 1) μ) μ) ∧ (((F_X7_has 135 (F_X5_valueAt 145 (i + 1) μ) μ) = 0) → isC 135 7 ∧ P_X7_has 135 (F_X5_valueAt 145 (i + 1) μ) μ ∧ r32 (F_X7_has 135 (F_X5_valueAt 145 (i + 1) μ) μ) ∧ ((¬ (F_X7_has 135 (F_X5_valueAt 145 (i + 1) μ) μ) = 0) → isC 135 7 ∧ P_X7_has 135 (F_X5_valueAt 145 (i + 2) μ) μ ∧ r32 (F_X7_has 135 (F_X5_valueAt 145 (i + 2) μ) μ) ∧ (((F_X7_has 135 (F_X5_valueAt 145 (i + 2) μ) μ) = 0) → isC 145 5 ∧ P_X5_startAt 145 (i + 2) μ ∧ isC 145 5 ∧ P_X5_refuse 145 2 (F_X5_startAt 145 (i + 2) μ) μ ∧ (∀ (μ4 : Mem) (rv5 : Int), Q_X5_refuse 145 2 (F_X5_startAt 145 (i + 2) μ) μ μ4 rv5 → (0 ≤ rv5 ∧ rv5 ≤ 1) ∧ R μ4 (some (kI rv5)))) ∧ (¬ ((F_X7_has 135 (F_X5_valueAt 145 (i + 2) μ) μ) = 0) → (r32 (F_X5_valueAt 145 (i + 1) μ) ∧ r32 (F_X5_valueAt 145 (i + 2) μ)) ∧ ((¬ (F_X5_valueAt 145 (i + 1) μ) = (F_X5_valueAt 145 (i + 2) μ)) → isC 145 5 ∧ P_X5_isNumber 145 (i + 3) 1 20 μ ∧ (∀ (μ7 : Mem) (rv8 : Int), Q_X5_isNumber 145 (i + 3) 1 20 μ μ7 rv8 → r32 rv8 ∧ ((¬ rv8 = 0) → isC 145 5 ∧ P_X5_valueAt 145 (i + 3) μ7 ∧ isC 135 7 ∧ P_X7_addLane 135 (F_X5_valueAt 145 (i + 1) μ) (F_X5_valueAt 145 (i + 2) μ) (F_X5_valueAt 145 (i + 3) μ7) μ7 ∧ (∀ (μ10 : Mem), Q_X7_addLane 135 (F_X5_valueAt 145 (i + 1) μ) (F_X5_valueAt 145 (i + 2) μ) (F_X5_valueAt 145 (i + 3) μ7) μ7 μ10 → V_X5_takeLane R 142 [] μ10)) ∧ (¬ (¬ rv8 = 0) → (0 ≤ (0 : Int) ∧ (0 : Int) ≤ 1) ∧ R μ7 (some (kI 0))))) ∧ (¬ (¬ (F_X5_valueAt 145 (i + 1) μ) = (F_X5_valueAt 145 (i + 2) μ)) → isC 145 5 ∧ P_X5_startAt 145 (i + 2) μ ∧ isC 145 5 ∧ P_X5_refuse 145 2 (F_X5_startAt 145 (i + 2) μ) μ ∧ (∀ (μ14 : Mem) (rv15 : Int), Q_X5_refuse 145 2 (F_X5_startAt 145 (i + 2) μ) μ μ14 rv15 → (0 ≤ rv15 ∧ rv15 ≤ 1) ∧ R μ14 (some (kI rv15)))))) ∧ (¬ (¬ (F_X7_has 135 (F_X5_valueAt 145 (i + 1) μ) μ) = 0) → isC 145 5 ∧ P_X5_startAt 145 (i + 1) μ ∧ isC 145 5 ∧ P_X5_refuse 145 2 (F_X5_startAt 145 (i + 1) μ) μ ∧ (∀ (μ19 : Mem) (rv20 : Int), Q_X5_refuse 145 2 (F_X5_startAt 145 (i + 1) μ) μ μ19 rv20 → (0 ≤ rv20 ∧ rv20 ≤ 1) ∧ R μ19 (some (kI rv20))))) ∧ (¬ ((F_X7_has 135 (F_X5_valueAt 145 (i + 1) μ) μ) = 0) → isC 135 7 ∧ P_X7_has 135 (F_X5_valueAt 145 (i + 2) μ) μ ∧ r32 (F_X7_has 135 (F_X5_valueAt 145 (i + 2) μ) μ) ∧ (((F_X7_has 135 (F_X5_valueAt 145 (i + 2) μ) μ) = 0) → isC 135 7 ∧ P_X7_has 135 (F_X5_valueAt 145 (i + 1) μ) μ ∧ r32 (F_X7_has 135 (F_X5_valueAt 145 (i + 1) μ) μ) ∧ ((¬ (F_X7_has 135 (F_X5_valueAt 145 (i + 1) μ) μ) = 0) → isC 135 7 ∧ P_X7_has 135 (F_X5_valueAt 145 (i + 2) μ) μ ∧ r32 (F_X7_has 135 (F_X5_valueAt 145 (i + 2) μ) μ) ∧ (((F_X7_has 135 (F_X5_valueAt 145 (i + 2) μ) μ) = 0) → isC 145 5 ∧ P_X5_startAt 145 (i + 2) μ ∧ isC 145 5 ∧ P_X5_refuse 145 2 (F_X5_startAt 145 (i + 2) μ) μ ∧ (∀ (μ23 : Mem) (rv24 : Int), Q_X5_refuse 145 2 (F_X5_startAt 145 (i + 2) μ) μ μ23 rv24 → (0 ≤ rv24 ∧ rv24 ≤ 1) ∧ R μ23 (some (kI rv24)))) ∧ (¬ ((F_X7_has 135 (F_X5_valueAt 145 (i + 2) μ) μ) = 0) → (r32 (F_X5_valueAt 145 (i + 1) μ) ∧ r32 (F_X5_valueAt 145 (i + 2) μ)) ∧ ((¬ (F_X5_valueAt 145 (i + 1) μ) = (F_X5_valueAt 145 (i + 2) μ)) → isC 145 5 ∧ P_X5_isNumber 145 (i + 3) 1 20 μ ∧ (∀ (μ26 : Mem) (rv27 : Int), Q_X5_isNumber 145 (i + 3) 1 20 μ μ26 rv27 → r32 rv27 ∧ ((¬ rv27 = 0) → isC 145 5 ∧ P_X5_valueAt 145 (i + 3) μ26 ∧ isC 135 7 ∧ P_X7_addLane 135 (F_X5_valueAt 145 (i + 1) μ) (F_X5_valueAt 145 (i + 2) μ) (F_X5_valueAt 145 (i + 3) μ26) μ26 ∧ (∀ (μ29 : Mem), Q_X7_addLane 135 (F_X5_valueAt 145 (i + 1) μ) (F_X5_valueAt 145 (i + 2) μ) (F_X5_valueAt 145 (i + 3) μ26) μ26 μ29 → V_X5_takeLane R 142 [] μ29)) ∧ (¬ (¬ rv27 = 0) → (0 ≤ (0 : Int) ∧ (0 : Int) ≤ 1) ∧ R μ26 (some (kI 0))))) ∧ (¬ (¬ (F_X5_valueAt 145 (i + 1) μ) = (F_X5_valueAt 145 (i + 2) μ)) → isC 145 5 ∧ P_X5_startAt 145 (i + 2) μ ∧ isC 145 5 ∧ P_X5_refuse 145 2 (F_X5_startAt 145 (i + 2) μ) μ ∧ (∀ (μ33 : Mem) (rv34 : Int), Q_X5_refuse 145 2 (F_X5_startAt 145 (i + 2) μ) μ μ33 rv34 → (0 ≤ rv34 ∧ rv34 ≤ 1) ∧ R μ33 (some (kI rv34)))))) ∧ (¬ (¬ (F_X7_has 135 (F_X5_valueAt 145 (i + 1) μ) μ) = 0) → isC 145 5 ∧ P_X5_startAt 145 (i + 1) μ ∧ isC 145 5 ∧ P_X5_refuse 145 2 (F_X5_startAt 145 (i + 1) μ) μ ∧ (∀ (μ38 : Mem) (rv39 : Int), Q_X5_refuse 145 2 (F_X5_startAt 145 (i + 1) μ) μ μ38 rv39 → (0 ≤ rv39 ∧ rv39 ≤ 1) ∧ R μ38 (some (kI rv39))))) ∧ (¬ ((F_X7_has 135 (F_X5_valueAt 145 (i + 2) μ) μ) = 0) → isC 135 7 ∧ P_X7_hasLane 135 (F_X5_valueAt 145 (i + 1) μ) (F_X5_valueAt 145 (i + 2) μ) μ ∧ r32 (F_X7_hasLane 135 (F_X5_valueAt 145 (i + 1) μ) (F_X5_valueAt 145 (i + 2) μ) μ) ∧ (((F_X7_hasLane 135 (F_X5_valueAt 145 (i + 1) μ) (F_X5_valueAt 145 (i + 2) μ) μ) = 0) → isC 135 7 ∧ P_X7_has 135 (F_X5_valueAt 145 (i + 1) μ) μ ∧ r32 (F_X7_has 135 (F_X5_valueAt 145 (i + 1) μ) μ) ∧ ((¬ (F_X7_has 135 (F_X5_valueAt 145 (i + 1) μ) μ) = 0) → isC 135 7 ∧ P_X7_has 135 (F_X5_valueAt 145 (i + 2) μ) μ ∧ r32 (F_X7_has 135 (F_X5_valueAt 145 (i + 2) μ) μ) ∧ (((F_X7_has 135 (F_X5_valueAt 145 (i + 2) μ) μ) = 0) → isC 145 5 ∧ P_X5_startAt 145 (i + 2) μ ∧ isC 145 5 ∧ P_X5_refuse 145 2 (F_X5_startAt 145 (i + 2) μ) μ ∧ (∀ (μ42 : Mem) (rv43 : Int), Q_X5_refuse 145 2 (F_X5_startAt 145 (i + 2) μ) μ μ42 rv43 → (0 ≤ rv43 ∧ rv43 ≤ 1) ∧ R μ42 (some (kI rv43)))) ∧ (¬ ((F_X7_has 135 (F_X5_valueAt 145 (i + 2) μ) μ) = 0) → (r32 (F_X5_valueAt 145 (i + 1) μ) ∧ r32 (F_X5_valueAt 145 (i + 2) μ)) ∧ ((¬ (F_X5_valueAt 145 (i + 1) μ) = (F_X5_valueAt 145 (i + 2) μ)) → isC 145 5 ∧ P_X5_isNumber 145 (i + 3) 1 20 μ ∧ (∀ (μ45 : Mem) (rv46 : Int), Q_X5_isNumber 145 (i + 3) 1 20 μ μ45 rv46 → r32 rv46 ∧ ((¬ rv46 = 0) → isC 145 5 ∧ P_X5_valueAt 145 (i + 3) μ45 ∧ isC 135 7 ∧ P_X7_addLane 135 (F_X5_valueAt 145 (i + 1) μ) (F_X5_valueAt 145 (i + 2) μ) (F_X5_valueAt 145 (i + 3) μ45) μ45 ∧ (∀ (μ48 : Mem), Q_X7_addLane 135 (F_X5_valueAt 145 (i + 1) μ) (F_X5_valueAt 145 (i + 2) μ) (F_X5_valueAt 145 (i + 3) μ45) μ45 μ48 → V_X5_takeLane R 142 [] μ48)) ∧ (¬ (¬ rv46 = 0) → (0 ≤ (0 : Int) ∧ (0 : Int) ≤ 1) ∧ R μ45 (some (kI 0))))) ∧ (¬ (¬ (F_X5_valueAt 145 (i + 1) μ) = (F_X5_valueAt 145 (i + 2) μ)) → isC 145 5 ∧ P_X5_startAt 145 (i + 2) μ ∧ isC 145 5 ∧ P_X5_refuse 145 2 (F_X5_startAt 145 (i + 2) μ) μ ∧ (∀ (μ52 : Mem) (rv53 : Int), Q_X5_refuse 145 2 (F_X5_startAt 145 (i + 2) μ) μ μ52 rv53 → (0 ≤ rv53 ∧ rv53 ≤ 1) ∧ R μ52 (some (kI rv53)))))) ∧ (¬ (¬ (F_X7_has 135 (F_X5_valueAt 145 (i + 1) μ) μ) = 0) → isC 145 5 ∧ P_X5_startAt 145 (i + 1) μ ∧ isC 145 5 ∧ P_X5_refuse 145 2 (F_X5_startAt 145 (i + 1) μ) μ ∧ (∀ (μ57 : Mem) (rv58 : Int), Q_X5_refuse 145 2 (F_X5_startAt 145 (i + 1) μ) μ μ57 rv58 → (0 ≤ rv58 ∧ rv58 ≤ 1) ∧ R μ57 (some (kI rv58))))) ∧ (¬ ((F_X7_hasLane 135 (F_X5_valueAt 145 (i + 1) μ) (F_X5_valueAt 145 (i + 2) μ) μ) = 0) → isC 145 5 ∧ P_X5_startAt 145 i μ ∧ isC 145 5 ∧ P_X5_refuse 145 3 (F_X5_startAt 145 i μ) μ ∧ (∀ (μ61 : Mem) (rv62 : Int), Q_X5_refuse 145 3 (F_X5_startAt 145 i μ) μ μ61 rv62 → (0 ≤ rv62 ∧ rv62 ≤ 1) ∧ R μ61 (some (kI rv62)))))))
  exact ⟨c_145, H.1, ⟨c_145, H.2.1, ⟨c_135, ⟨⟨H.2.2.1, by unfold r32; omega⟩, fun hc67 => ⟨c_145, (H.2.2.2.1 hc67).1, ⟨c_145, (H.2.2.2.1 hc67).2.1, fun μ1 rv2 hq3 => ((H.2.2.2.1 hc67).2.2 μ1 rv2 hq3)⟩⟩, fun hc67 => ⟨c_135, (H.2.2.2.2 hc67).1, ⟨(H.2.2.2.2 hc67).2.1, fun hc66 => ⟨c_135, ((H.2.2.2.2 hc67).2.2.1 hc66).1, ⟨((H.2.2.2.2 hc67).2.2.1 hc66).2.1, fun hc22 => ⟨c_135, (((H.2.2.2.2 hc67).2.2.1 hc66).2.2.1 hc22).1, ⟨(((H.2.2.2.2 hc67).2.2.1 hc66).2.2.1 hc22).2.1, fun hc18 => ⟨c_145, ((((H.2.2.2.2 hc67).2.2.1 hc66).2.2.1 hc22).2.2.1 hc18).1, ⟨c_145, ((((H.2.2.2.2 hc67).2.2.1 hc66).2.2.1 hc22).2.2.1 hc18).2.1, fun μ4 rv5 hq6 => (((((H.2.2.2.2 hc67).2.2.1 hc66).2.2.1 hc22).2.2.1 hc18).2.2 μ4 rv5 hq6)⟩⟩, fun hc18 => ⟨⟨((((H.2.2.2.2 hc67).2.2.1 hc66).2.2.1 hc22).2.2.2 hc18).1, ((((H.2.2.2.2 hc67).2.2.1 hc66).2.2.1 hc22).2.2.2 hc18).2.1⟩, fun hc17 => ⟨c_145, (((((H.2.2.2.2 hc67).2.2.1 hc66).2.2.1 hc22).2.2.2 hc18).2.2.1 hc17).1, fun μ7 rv8 hq9 => ⟨((((((H.2.2.2.2 hc67).2.2.1 hc66).2.2.1 hc22).2.2.2 hc18).2.2.1 hc17).2 μ7 rv8 hq9).1, fun hc13 => ⟨c_145, (((((((H.2.2.2.2 hc67).2.2.1 hc66).2.2.1 hc22).2.2.2 hc18).2.2.1 hc17).2 μ7 rv8 hq9).2.1 hc13).1, ⟨c_135, (((((((H.2.2.2.2 hc67).2.2.1 hc66).2.2.1 hc22).2.2.2 hc18).2.2.1 hc17).2 μ7 rv8 hq9).2.1 hc13).2.1, fun μ10 hq12 => ((((((((H.2.2.2.2 hc67).2.2.1 hc66).2.2.1 hc22).2.2.2 hc18).2.2.1 hc17).2 μ7 rv8 hq9).2.1 hc13).2.2 μ10 hq12)⟩⟩, fun hc13 => ⟨⟨by omega, by omega⟩, (((((((H.2.2.2.2 hc67).2.2.1 hc66).2.2.1 hc22).2.2.2 hc18).2.2.1 hc17).2 μ7 rv8 hq9).2.2 hc13)⟩⟩⟩, fun hc17 => ⟨c_145, (((((H.2.2.2.2 hc67).2.2.1 hc66).2.2.1 hc22).2.2.2 hc18).2.2.2 hc17).1, ⟨c_145, (((((H.2.2.2.2 hc67).2.2.1 hc66).2.2.1 hc22).2.2.2 hc18).2.2.2 hc17).2.1, fun μ14 rv15 hq16 => ((((((H.2.2.2.2 hc67).2.2.1 hc66).2.2.1 hc22).2.2.2 hc18).2.2.2 hc17).2.2 μ14 rv15 hq16)⟩⟩⟩⟩⟩, fun hc22 => ⟨c_145, (((H.2.2.2.2 hc67).2.2.1 hc66).2.2.2 hc22).1, ⟨c_145, (((H.2.2.2.2 hc67).2.2.1 hc66).2.2.2 hc22).2.1, fun μ19 rv20 hq21 => ((((H.2.2.2.2 hc67).2.2.1 hc66).2.2.2 hc22).2.2 μ19 rv20 hq21)⟩⟩⟩⟩, fun hc66 => ⟨c_135, ((H.2.2.2.2 hc67).2.2.2 hc66).1, ⟨((H.2.2.2.2 hc67).2.2.2 hc66).2.1, fun hc65 => ⟨c_135, (((H.2.2.2.2 hc67).2.2.2 hc66).2.2.1 hc65).1, ⟨(((H.2.2.2.2 hc67).2.2.2 hc66).2.2.1 hc65).2.1, fun hc41 => ⟨c_135, ((((H.2.2.2.2 hc67).2.2.2 hc66).2.2.1 hc65).2.2.1 hc41).1, ⟨((((H.2.2.2.2 hc67).2.2.2 hc66).2.2.1 hc65).2.2.1 hc41).2.1, fun hc37 => ⟨c_145, (((((H.2.2.2.2 hc67).2.2.2 hc66).2.2.1 hc65).2.2.1 hc41).2.2.1 hc37).1, ⟨c_145, (((((H.2.2.2.2 hc67).2.2.2 hc66).2.2.1 hc65).2.2.1 hc41).2.2.1 hc37).2.1, fun μ23 rv24 hq25 => ((((((H.2.2.2.2 hc67).2.2.2 hc66).2.2.1 hc65).2.2.1 hc41).2.2.1 hc37).2.2 μ23 rv24 hq25)⟩⟩, fun hc37 => ⟨⟨(((((H.2.2.2.2 hc67).2.2.2 hc66).2.2.1 hc65).2.2.1 hc41).2.2.2 hc37).1, (((((H.2.2.2.2 hc67).2.2.2 hc66).2.2.1 hc65).2.2.1 hc41).2.2.2 hc37).2.1⟩, fun hc36 => ⟨c_145, ((((((H.2.2.2.2 hc67).2.2.2 hc66).2.2.1 hc65).2.2.1 hc41).2.2.2 hc37).2.2.1 hc36).1, fun μ26 rv27 hq28 => ⟨(((((((H.2.2.2.2 hc67).2.2.2 hc66).2.2.1 hc65).2.2.1 hc41).2.2.2 hc37).2.2.1 hc36).2 μ26 rv27 hq28).1, fun hc32 => ⟨c_145, ((((((((H.2.2.2.2 hc67).2.2.2 hc66).2.2.1 hc65).2.2.1 hc41).2.2.2 hc37).2.2.1 hc36).2 μ26 rv27 hq28).2.1 hc32).1, ⟨c_135, ((((((((H.2.2.2.2 hc67).2.2.2 hc66).2.2.1 hc65).2.2.1 hc41).2.2.2 hc37).2.2.1 hc36).2 μ26 rv27 hq28).2.1 hc32).2.1, fun μ29 hq31 => (((((((((H.2.2.2.2 hc67).2.2.2 hc66).2.2.1 hc65).2.2.1 hc41).2.2.2 hc37).2.2.1 hc36).2 μ26 rv27 hq28).2.1 hc32).2.2 μ29 hq31)⟩⟩, fun hc32 => ⟨⟨by omega, by omega⟩, ((((((((H.2.2.2.2 hc67).2.2.2 hc66).2.2.1 hc65).2.2.1 hc41).2.2.2 hc37).2.2.1 hc36).2 μ26 rv27 hq28).2.2 hc32)⟩⟩⟩, fun hc36 => ⟨c_145, ((((((H.2.2.2.2 hc67).2.2.2 hc66).2.2.1 hc65).2.2.1 hc41).2.2.2 hc37).2.2.2 hc36).1, ⟨c_145, ((((((H.2.2.2.2 hc67).2.2.2 hc66).2.2.1 hc65).2.2.1 hc41).2.2.2 hc37).2.2.2 hc36).2.1, fun μ33 rv34 hq35 => (((((((H.2.2.2.2 hc67).2.2.2 hc66).2.2.1 hc65).2.2.1 hc41).2.2.2 hc37).2.2.2 hc36).2.2 μ33 rv34 hq35)⟩⟩⟩⟩⟩, fun hc41 => ⟨c_145, ((((H.2.2.2.2 hc67).2.2.2 hc66).2.2.1 hc65).2.2.2 hc41).1, ⟨c_145, ((((H.2.2.2.2 hc67).2.2.2 hc66).2.2.1 hc65).2.2.2 hc41).2.1, fun μ38 rv39 hq40 => (((((H.2.2.2.2 hc67).2.2.2 hc66).2.2.1 hc65).2.2.2 hc41).2.2 μ38 rv39 hq40)⟩⟩⟩⟩, fun hc65 => ⟨c_135, (((H.2.2.2.2 hc67).2.2.2 hc66).2.2.2 hc65).1, ⟨(((H.2.2.2.2 hc67).2.2.2 hc66).2.2.2 hc65).2.1, fun hc64 => ⟨c_135, ((((H.2.2.2.2 hc67).2.2.2 hc66).2.2.2 hc65).2.2.1 hc64).1, ⟨((((H.2.2.2.2 hc67).2.2.2 hc66).2.2.2 hc65).2.2.1 hc64).2.1, fun hc60 => ⟨c_135, (((((H.2.2.2.2 hc67).2.2.2 hc66).2.2.2 hc65).2.2.1 hc64).2.2.1 hc60).1, ⟨(((((H.2.2.2.2 hc67).2.2.2 hc66).2.2.2 hc65).2.2.1 hc64).2.2.1 hc60).2.1, fun hc56 => ⟨c_145, ((((((H.2.2.2.2 hc67).2.2.2 hc66).2.2.2 hc65).2.2.1 hc64).2.2.1 hc60).2.2.1 hc56).1, ⟨c_145, ((((((H.2.2.2.2 hc67).2.2.2 hc66).2.2.2 hc65).2.2.1 hc64).2.2.1 hc60).2.2.1 hc56).2.1, fun μ42 rv43 hq44 => (((((((H.2.2.2.2 hc67).2.2.2 hc66).2.2.2 hc65).2.2.1 hc64).2.2.1 hc60).2.2.1 hc56).2.2 μ42 rv43 hq44)⟩⟩, fun hc56 => ⟨⟨((((((H.2.2.2.2 hc67).2.2.2 hc66).2.2.2 hc65).2.2.1 hc64).2.2.1 hc60).2.2.2 hc56).1, ((((((H.2.2.2.2 hc67).2.2.2 hc66).2.2.2 hc65).2.2.1 hc64).2.2.1 hc60).2.2.2 hc56).2.1⟩, fun hc55 => ⟨c_145, (((((((H.2.2.2.2 hc67).2.2.2 hc66).2.2.2 hc65).2.2.1 hc64).2.2.1 hc60).2.2.2 hc56).2.2.1 hc55).1, fun μ45 rv46 hq47 => ⟨((((((((H.2.2.2.2 hc67).2.2.2 hc66).2.2.2 hc65).2.2.1 hc64).2.2.1 hc60).2.2.2 hc56).2.2.1 hc55).2 μ45 rv46 hq47).1, fun hc51 => ⟨c_145, (((((((((H.2.2.2.2 hc67).2.2.2 hc66).2.2.2 hc65).2.2.1 hc64).2.2.1 hc60).2.2.2 hc56).2.2.1 hc55).2 μ45 rv46 hq47).2.1 hc51).1, ⟨c_135, (((((((((H.2.2.2.2 hc67).2.2.2 hc66).2.2.2 hc65).2.2.1 hc64).2.2.1 hc60).2.2.2 hc56).2.2.1 hc55).2 μ45 rv46 hq47).2.1 hc51).2.1, fun μ48 hq50 => ((((((((((H.2.2.2.2 hc67).2.2.2 hc66).2.2.2 hc65).2.2.1 hc64).2.2.1 hc60).2.2.2 hc56).2.2.1 hc55).2 μ45 rv46 hq47).2.1 hc51).2.2 μ48 hq50)⟩⟩, fun hc51 => ⟨⟨by omega, by omega⟩, (((((((((H.2.2.2.2 hc67).2.2.2 hc66).2.2.2 hc65).2.2.1 hc64).2.2.1 hc60).2.2.2 hc56).2.2.1 hc55).2 μ45 rv46 hq47).2.2 hc51)⟩⟩⟩, fun hc55 => ⟨c_145, (((((((H.2.2.2.2 hc67).2.2.2 hc66).2.2.2 hc65).2.2.1 hc64).2.2.1 hc60).2.2.2 hc56).2.2.2 hc55).1, ⟨c_145, (((((((H.2.2.2.2 hc67).2.2.2 hc66).2.2.2 hc65).2.2.1 hc64).2.2.1 hc60).2.2.2 hc56).2.2.2 hc55).2.1, fun μ52 rv53 hq54 => ((((((((H.2.2.2.2 hc67).2.2.2 hc66).2.2.2 hc65).2.2.1 hc64).2.2.1 hc60).2.2.2 hc56).2.2.2 hc55).2.2 μ52 rv53 hq54)⟩⟩⟩⟩⟩, fun hc60 => ⟨c_145, (((((H.2.2.2.2 hc67).2.2.2 hc66).2.2.2 hc65).2.2.1 hc64).2.2.2 hc60).1, ⟨c_145, (((((H.2.2.2.2 hc67).2.2.2 hc66).2.2.2 hc65).2.2.1 hc64).2.2.2 hc60).2.1, fun μ57 rv58 hq59 => ((((((H.2.2.2.2 hc67).2.2.2 hc66).2.2.2 hc65).2.2.1 hc64).2.2.2 hc60).2.2 μ57 rv58 hq59)⟩⟩⟩⟩, fun hc64 => ⟨c_145, ((((H.2.2.2.2 hc67).2.2.2 hc66).2.2.2 hc65).2.2.2 hc64).1, ⟨c_145, ((((H.2.2.2.2 hc67).2.2.2 hc66).2.2.2 hc65).2.2.2 hc64).2.1, fun μ61 rv62 hq63 => (((((H.2.2.2.2 hc67).2.2.2 hc66).2.2.2 hc65).2.2.2 hc64).2.2 μ61 rv62 hq63)⟩⟩⟩⟩⟩⟩⟩⟩⟩⟩⟩⟩
set_option maxRecDepth 20000 in
theorem vc_X5_takeLane_142 {R : Mem → Option AV → Prop} {μ : Mem} (H : R μ (some (kI 1))) : V_X5_takeLane R 142 [] μ := by
  refine vm_step2 mt_X5_takeLane ok_X5_takeLane [(142, [])] 1000 ?_
  show (0 ≤ (1 : Int) ∧ (1 : Int) ≤ 1) ∧ R μ (some (kI 1))
  exact ⟨⟨by omega, by omega⟩, H⟩
theorem body_X5_takeLane {o d i : Int} {μ : Mem} {R : Mem → Option AV → Prop} (h : P_X5_takeLane o d i μ) (hR : ∀ (μ' : Mem) (r : Int), Q_X5_takeLane o d i μ μ' r → R μ' (some (kI r))) : V_X5_takeLane R 0 [(0, kR o), (1, kR d), (2, kI i)] μ := by
  obtain ⟨rfl, rfl, hi6, hb, hT, hl, v1, v2, v3⟩ := h
  have tb := hb.1
  have hp : 2 ≤ μ 135 1 ∧ μ 135 1 ≤ 8 := hT.2.1
  have hpe : tv μ 135 0 0 = μ 135 1 := rfl
  have hle : tv μ 135 1 0 = μ 135 2 := rfl
  have pv : ∀ j : Int, 0 ≤ j → j ≤ 1000 → P_X5_valueAt 145 j μ := fun j j0 j1 => ⟨rfl, rr (by omega), by omega⟩
  have e1 : F_X5_valueAt 145 (i + 1) μ = Vm μ (i + 1) := rfl
  have e2 : F_X5_valueAt 145 (i + 2) μ = Vm μ (i + 2) := rfl
  have rf : ∀ (k j : Int), k ≠ 0 → r32 k → 0 ≤ j → j ≤ 1000 → lanV (Sm μ) (Vm μ) i (tv μ 135) = ((k, Sm μ j), tv μ 135) → P_X5_startAt 145 j μ ∧ P_X5_refuse 145 k (F_X5_startAt 145 j μ) μ ∧ ∀ (μ1 : Mem) (rv2 : Int), Q_X5_refuse 145 k (F_X5_startAt 145 j μ) μ μ1 rv2 → (0 ≤ rv2 ∧ rv2 ≤ 1) ∧ R μ1 (some (kI rv2)) := by
    intro k j hk rk j0 j1 hq
    have sj := (Km_bd hb j).2
    refine ⟨⟨rfl, rr (by omega), by omega⟩, ⟨rfl, rk, ?_⟩, fun m r q => ?_⟩
    · show r32 (Sm μ j)
      exact rr (by omega)
    · have h := lr_ref (v := tv μ 135) q (fun _ _ => rfl) hk
      refine ⟨h.1, hR m r ⟨h.1, ?_⟩⟩
      rw [hq]; exact h.2
  have ph : ∀ a : Int, r32 a → P_X7_has 135 a μ := fun a ha => ⟨t_135, ha, hp⟩
  have rh : ∀ a : Int, r32 (if 0 ≤ a ∧ a < μ 135 1 then 1 else 0) := fun a => by split <;> exact rr (by omega)
  -- both are places, and there is no lane
  have last : ¬ (20 ≤ μ 135 2) → (0 ≤ Vm μ (i + 1) ∧ Vm μ (i + 1) < μ 135 1) → (0 ≤ Vm μ (i + 2) ∧ Vm μ (i + 2) < μ 135 1) → tv μ 135 7 (8 * Vm μ (i + 1) + Vm μ (i + 2)) = 0 → ¬ Vm μ (i + 1) = Vm μ (i + 2) → P_X5_isNumber 145 (i + 3) 1 20 μ ∧ (∀ (μ7 : Mem) (rv8 : Int), Q_X5_isNumber 145 (i + 3) 1 20 μ μ7 rv8 → r32 rv8 ∧ ((¬ rv8 = 0) → P_X5_valueAt 145 (i + 3) μ7 ∧ P_X7_addLane 135 (Vm μ (i + 1)) (Vm μ (i + 2)) (F_X5_valueAt 145 (i + 3) μ7) μ7 ∧ (∀ (μ10 : Mem), Q_X7_addLane 135 (Vm μ (i + 1)) (Vm μ (i + 2)) (F_X5_valueAt 145 (i + 3) μ7) μ7 μ10 → V_X5_takeLane R 142 [] μ10)) ∧ (¬ (¬ rv8 = 0) → R μ7 (some (kI 0)))) := by
    intro hl2 ha hbb hz hab
    have pre : ∀ X : (Int × Int) × TV, (if ¬ (1 ≤ Vm μ (i + 3) ∧ Vm μ (i + 3) ≤ 20) then ((2, Sm μ (i + 3)), tv μ 135) else ((0, 0), addLV (tv μ 135) (Vm μ (i + 1)) (Vm μ (i + 2)) (Vm μ (i + 3)))) = X → lanV (Sm μ) (Vm μ) i (tv μ 135) = X := fun X hX => by
      unfold lanV
      rw [hpe, hle, if_neg (fun q => q.elim hl2 (fun q => q.2.2 hz)), if_neg (fun q => q ha), if_neg (fun q => q.elim (fun q => q hbb) hab)]
      exact hX
    refine ⟨⟨rfl, rr (by omega), hb, v3, rr (by omega), rr (by omega)⟩, fun m7 r8 q8 => ?_⟩
    unfold Q_X5_isNumber at q8
    by_cases c3 : 1 ≤ Vm μ (i + 3) ∧ Vm μ (i + 3) ≤ 20
    · obtain ⟨x1, x2⟩ := q8.1 c3
      subst x1; subst x2
      refine ⟨rr (by omega), fun _ => ⟨pv _ (by omega) (by omega), ⟨t_135, by omega, by omega⟩, fun m10 q10 => vc_X5_takeLane_142 (hR m10 1 ⟨by omega, ?_⟩)⟩, fun q => absurd (show ¬ (1 : Int) = 0 by omega) q⟩
      rw [pre _ (if_neg (fun q => q c3))]
      refine ⟨fun _ => ⟨rfl, q10.1, fun y hy => q10.2 y (by omega)⟩, fun q => absurd rfl q⟩
    · obtain ⟨x1, x2⟩ := q8.2 c3
      have h := lr_ref (μ := μ) (v := tv μ 135) ⟨x1, x2⟩ (fun _ _ => rfl) (show (2 : Int) ≠ 0 by omega)
      subst x1
      refine ⟨rr (by omega), fun q => absurd rfl q, fun _ => hR m7 0 ⟨by omega, ?_⟩⟩
      rw [pre _ (if_pos c3)]
      exact h.2
  refine vc_X5_takeLane_0 ?_
  unfold F_X7_has F_X7_hasLane
  rw [e1, e2]
  refine ⟨pv _ (by omega) (by omega), pv _ (by omega) (by omega), rr (by omega), fun c => rf 3 i (by omega) (rr (by omega)) (by omega) (by omega) ?_, fun c => ?_⟩
  · unfold lanV; rw [hle, if_pos (Or.inl c)]
  have a_bad : ¬ (0 ≤ Vm μ (i + 1) ∧ Vm μ (i + 1) < μ 135 1) → lanV (Sm μ) (Vm μ) i (tv μ 135) = ((2, Sm μ (i + 1)), tv μ 135) := fun q => by
    unfold lanV; rw [hpe, hle, if_neg (fun z => z.elim c (fun z => q z.1)), if_pos q]
  have b_bad : (0 ≤ Vm μ (i + 1) ∧ Vm μ (i + 1) < μ 135 1) → ¬ (0 ≤ Vm μ (i + 2) ∧ Vm μ (i + 2) < μ 135 1) → lanV (Sm μ) (Vm μ) i (tv μ 135) = ((2, Sm μ (i + 2)), tv μ 135) := fun q1 q => by
    unfold lanV; rw [hpe, hle, if_neg (fun z => z.elim c (fun z => q z.2.1)), if_neg (fun z => z q1), if_pos (Or.inl q)]
  have same : (0 ≤ Vm μ (i + 1) ∧ Vm μ (i + 1) < μ 135 1) → (0 ≤ Vm μ (i + 2) ∧ Vm μ (i + 2) < μ 135 1) → tv μ 135 7 (8 * Vm μ (i + 1) + Vm μ (i + 2)) = 0 → Vm μ (i + 1) = Vm μ (i + 2) → lanV (Sm μ) (Vm μ) i (tv μ 135) = ((2, Sm μ (i + 2)), tv μ 135) := fun q1 q2 hz q => by
    unfold lanV; rw [hpe, hle, if_neg (fun z => z.elim c (fun z => z.2.2 hz)), if_neg (fun z => z q1), if_pos (Or.inr q)]
  have lane : (0 ≤ Vm μ (i + 1) ∧ Vm μ (i + 1) < μ 135 1) → (0 ≤ Vm μ (i + 2) ∧ Vm μ (i + 2) < μ 135 1) → ¬ tv μ 135 7 (8 * Vm μ (i + 1) + Vm μ (i + 2)) = 0 → lanV (Sm μ) (Vm μ) i (tv μ 135) = ((3, Sm μ i), tv μ 135) := fun q1 q2 hz => by
    unfold lanV; rw [hpe, hle, if_pos (Or.inr ⟨q1, q2, hz⟩)]
  have r0 : r32 0 := rr (by omega)
  have r1 : r32 1 := rr (by omega)
  have no1 : ¬ (1 : Int) = 0 := by omega
  by_cases ca : 0 ≤ Vm μ (i + 1) ∧ Vm μ (i + 1) < μ 135 1
  · by_cases cb : 0 ≤ Vm μ (i + 2) ∧ Vm μ (i + 2) < μ 135 1
    · rw [if_pos ca, if_pos cb]
      by_cases hz : tv μ 135 7 (8 * Vm μ (i + 1) + Vm μ (i + 2)) = 0
      · rw [if_pos hz]
        exact ⟨ph _ v1, r1, fun q => absurd q no1, fun _ => ⟨ph _ v2, r1, fun q => absurd q no1, fun _ => ⟨⟨hT, by omega, by omega⟩, r0, fun _ => ⟨ph _ v1, r1, fun _ => ⟨ph _ v2, r1, fun q => absurd q no1, fun _ => ⟨v1, v2, fun hab => last c ca cb hz hab, fun hab => rf 2 (i + 2) (by omega) (rr (by omega)) (by omega) (by omega) (same ca cb hz (Classical.byContradiction hab))⟩⟩, fun q => absurd no1 q⟩, fun q => absurd rfl q⟩⟩⟩
      · rw [if_neg hz]
        exact ⟨ph _ v1, r1, fun q => absurd q no1, fun _ => ⟨ph _ v2, r1, fun q => absurd q no1, fun _ => ⟨⟨hT, by omega, by omega⟩, r1, fun q => absurd q no1, fun _ => rf 3 i (by omega) (rr (by omega)) (by omega) (by omega) (lane ca cb hz)⟩⟩⟩
    · rw [if_pos ca, if_neg cb]
      exact ⟨ph _ v1, r1, fun q => absurd q no1, fun _ => ⟨ph _ v2, r0, fun _ => ⟨ph _ v1, r1, fun _ => ⟨ph _ v2, r0, fun _ => rf 2 (i + 2) (by omega) (rr (by omega)) (by omega) (by omega) (b_bad ca cb), fun q => absurd rfl q⟩, fun q => absurd no1 q⟩, fun q => absurd rfl q⟩⟩
  · rw [if_neg ca]
    exact ⟨ph _ v1, r0, fun _ => ⟨ph _ v1, r0, fun q => absurd rfl q, fun _ => rf 2 (i + 1) (by omega) (rr (by omega)) (by omega) (by omega) (a_bad ca)⟩, fun q => absurd rfl q⟩
theorem ct_X5_takeLane : Ct mX5_takeLane 2 46 0 0 (nrmS S_X5_takeLane) := by
  refine ct_vm (own := RX5) (by decide +kernel) rfl ?_ ?_
  · intro as μ Q hS
    unfold S_X5_takeLane at hS
    split at hS
    · exact Nat.le_of_ble_eq_true rfl
    · exact hS.elim
  · intro as μ R hS
    unfold S_X5_takeLane at hS
    split at hS
    · exact body_X5_takeLane hS.1 hS.2
    · exact hS.elim
def P_X5_takeLine (o d i : Int) (μ : Mem) : Prop := o = 145 ∧ d = 135 ∧ (0 ≤ i ∧ i ≤ 600) ∧ TkB μ ∧ TB μ 135 ∧ (0 ≤ μ 135 2 ∧ μ 135 2 ≤ 20) ∧ (4 ≤ Km μ i ∧ Km μ i ≤ 9) ∧ ∀ j : Int, 1 ≤ j → j ≤ nbK (Km μ i) → r32 (Vm μ (i + j))
def Q_X5_takeLine (_ _ i : Int) (μ μ' : Mem) (r : Int) : Prop := (0 ≤ r ∧ r ≤ 1) ∧ LR μ μ' r (lineV (Km μ) (Sm μ) (Vm μ) i (tv μ 135))
def S_X5_takeLine : S0t := fun as μ Q => match as with
  | [(2, x0), (2, x1), (0, x2)] => P_X5_takeLine x0 x1 x2 μ ∧ ∀ (μ' : Mem) (r : Int), Q_X5_takeLine x0 x1 x2 μ μ' r → Q μ' (some (kI r))
  | _ => False
theorem mono_X5_takeLine : Mono S_X5_takeLine := by
  intro as μ Q Q' h hS
  unfold S_X5_takeLine at hS ⊢
  split at hS
  · exact ⟨hS.1, fun μ' r q => h _ _ (hS.2 _ _ q)⟩
  · exact hS.elim
def iX5_takeLine : Inf := (kX5_takeLine, fTX5, pTX5, cTX5, lTX5, sTX5, [(104, 0, 1, 5, S_X5_kindAt), (118, 0, 1, 5, S_X5_valueAt), (130, 0, 2, 5, S_X5_takeLane), (136, 0, 5, 5, S_X5_takeOfPlace), (149, 0, 3, 5, S_X5_isNumber)])
theorem ok_X5_takeLine : infOK iX5_takeLine mX5_takeLine RX5 3 72 := ⟨kkX5_takeLine, fTX5_ok, pTX5_ok _, cTX5_ok, lTX5_ok, sTX5_ok, c_cons ⟨mX5_kindAt, 0, 0, ct_X5_kindAt, mmX5_kindAt, vvX5_kindAt, lkX5_104, ⟨by decide, by decide⟩, ⟨_, _, rfl⟩, by decide, mono_X5_kindAt⟩ (c_cons ⟨mX5_valueAt, 0, 0, ct_X5_valueAt, mmX5_valueAt, vvX5_valueAt, lkX5_118, ⟨by decide, by decide⟩, ⟨_, _, rfl⟩, by decide, mono_X5_valueAt⟩ (c_cons ⟨mX5_takeLane, 2, 46, ct_X5_takeLane, mmX5_takeLane, vvX5_takeLane, lkX5_130, ⟨by decide, by decide⟩, ⟨_, _, rfl⟩, by decide, mono_X5_takeLane⟩ (c_cons ⟨mX5_takeOfPlace, 2, 46, ct_X5_takeOfPlace, mmX5_takeOfPlace, vvX5_takeOfPlace, lkX5_136, ⟨by decide, by decide⟩, ⟨_, _, rfl⟩, by decide, mono_X5_takeOfPlace⟩ (c_cons ⟨mX5_isNumber, 1, 22, ct_X5_isNumber, mmX5_isNumber, vvX5_isNumber, lkX5_149, ⟨by decide, by decide⟩, ⟨_, _, rfl⟩, by decide, mono_X5_isNumber⟩ (c_nil)))))⟩
theorem mt_X5_takeLine : mtOK [] RX5 3 72 := mt_nil
abbrev V_X5_takeLine (R : Mem → Option AV → Prop) (pc : Nat) (lc : List (Nat × AV)) (μ : Mem) : Prop := VM mX5_takeLine RX5 3 72 R pc lc [] μ
set_option maxRecDepth 20000 in
theorem vc_X5_takeLine_0 {R : Mem → Option AV → Prop} {i : Int} {μ : Mem} (H : P_X5_kindAt 145 i μ ∧ r32 (F_X5_kindAt 145 i μ) ∧ ((F_X5_kindAt 145 i μ) < 4 ∨ 8 < (F_X5_kindAt 145 i μ) → P_X5_valueAt 145 (i + 1) μ ∧ V_X5_takeLine R 123 [(0, kR 145), (2, kI i)] (updm μ 135 6 (F_X5_valueAt 145 (i + 1) μ))) ∧ ((F_X5_kindAt 145 i μ) = 4 → P_X5_takeLane 145 135 i μ ∧ (∀ (μ1 : Mem) (rv2 : Int), Q_X5_takeLane 145 135 i μ μ1 rv2 → (0 ≤ rv2 ∧ rv2 ≤ 1) ∧ R μ1 (some (kI rv2)))) ∧ ((F_X5_kindAt 145 i μ) = 5 → P_X5_takeOfPlace 145 135 i 138 0 99 μ ∧ (∀ (μ4 : Mem) (rv5 : Int), Q_X5_takeOfPlace 145 135 i 138 0 99 μ μ4 rv5 → (0 ≤ rv5 ∧ rv5 ≤ 1) ∧ R μ4 (some (kI rv5)))) ∧ ((F_X5_kindAt 145 i μ) = 6 → P_X5_takeOfPlace 145 135 i 139 1 12 μ ∧ (∀ (μ7 : Mem) (rv8 : Int), Q_X5_takeOfPlace 145 135 i 139 1 12 μ μ7 rv8 → (0 ≤ rv8 ∧ rv8 ≤ 1) ∧ R μ7 (some (kI rv8)))) ∧ ((F_X5_kindAt 145 i μ) = 7 → P_X5_takeOfPlace 145 135 i 140 1 99 μ ∧ (∀ (μ10 : Mem) (rv11 : Int), Q_X5_takeOfPlace 145 135 i 140 1 99 μ μ10 rv11 → (0 ≤ rv11 ∧ rv11 ≤ 1) ∧ R μ10 (some (kI rv11)))) ∧ ((F_X5_kindAt 145 i μ) = 8 → P_X5_valueAt 145 (i + 1) μ ∧ V_X5_takeLine R 100 [(0, kR 145), (2, kI i)] (updm μ 135 5 (F_X5_valueAt 145 (i + 1) μ)))) : V_X5_takeLine R 0 [(0, kR 145), (1, kR 135), (2, kI i)] μ := by
  refine vm_step2 mt_X5_takeLine ok_X5_takeLine [(100, [0, 2]), (123, [0, 2])] 1000 ?_
  show isC 145 5 ∧ P_X5_kindAt 145 i μ ∧ r32 (F_X5_kindAt 145 i μ) ∧ ((F_X5_kindAt 145 i μ) < 4 ∨ 8 < (F_X5_kindAt 145 i μ) → isC 145 5 ∧ P_X5_valueAt 145 (i + 1) μ ∧ isC 135 7 ∧ 0 = 0 ∧ True ∧ V_X5_takeLine R 123 [(0, kR 145), (2, kI i)] (updm μ 135 6 (F_X5_valueAt 145 (i + 1) μ))) ∧ ((F_X5_kindAt 145 i μ) = 4 → isC 145 5 ∧ P_X5_takeLane 145 135 i μ ∧ (∀ (μ1 : Mem) (rv2 : Int), Q_X5_takeLane 145 135 i μ μ1 rv2 → (0 ≤ rv2 ∧ rv2 ≤ 1) ∧ R μ1 (some (kI rv2)))) ∧ ((F_X5_kindAt 145 i μ) = 5 → isC 135 7 ∧ isC 145 5 ∧ P_X5_takeOfPlace 145 135 i 138 0 99 μ ∧ (∀ (μ4 : Mem) (rv5 : Int), Q_X5_takeOfPlace 145 135 i 138 0 99 μ μ4 rv5 → (0 ≤ rv5 ∧ rv5 ≤ 1) ∧ R μ4 (some (kI rv5)))) ∧ ((F_X5_kindAt 145 i μ) = 6 → isC 135 7 ∧ isC 145 5 ∧ P_X5_takeOfPlace 145 135 i 139 1 12 μ ∧ (∀ (μ7 : Mem) (rv8 : Int), Q_X5_takeOfPlace 145 135 i 139 1 12 μ μ7 rv8 → (0 ≤ rv8 ∧ rv8 ≤ 1) ∧ R μ7 (some (kI rv8)))) ∧ ((F_X5_kindAt 145 i μ) = 7 → isC 135 7 ∧ isC 145 5 ∧ P_X5_takeOfPlace 145 135 i 140 1 99 μ ∧ (∀ (μ10 : Mem) (rv11 : Int), Q_X5_takeOfPlace 145 135 i 140 1 99 μ μ10 rv11 → (0 ≤ rv11 ∧ rv11 ≤ 1) ∧ R μ10 (some (kI rv11)))) ∧ ((F_X5_kindAt 145 i μ) = 8 → isC 145 5 ∧ P_X5_valueAt 145 (i + 1) μ ∧ isC 135 7 ∧ 0 = 0 ∧ True ∧ V_X5_takeLine R 100 [(0, kR 145), (2, kI i)] (updm μ 135 5 (F_X5_valueAt 145 (i + 1) μ))) ∧ True
  exact ⟨c_145, H.1, ⟨H.2.1, fun hc13 => ⟨c_145, (H.2.2.1 hc13).1, ⟨c_135, rfl, trivial, (H.2.2.1 hc13).2⟩⟩, fun hc13 => ⟨c_145, (H.2.2.2.1 hc13).1, fun μ1 rv2 hq3 => ((H.2.2.2.1 hc13).2 μ1 rv2 hq3)⟩, fun hc13 => ⟨c_135, ⟨c_145, (H.2.2.2.2.1 hc13).1, fun μ4 rv5 hq6 => ((H.2.2.2.2.1 hc13).2 μ4 rv5 hq6)⟩⟩, fun hc13 => ⟨c_135, ⟨c_145, (H.2.2.2.2.2.1 hc13).1, fun μ7 rv8 hq9 => ((H.2.2.2.2.2.1 hc13).2 μ7 rv8 hq9)⟩⟩, fun hc13 => ⟨c_135, ⟨c_145, (H.2.2.2.2.2.2.1 hc13).1, fun μ10 rv11 hq12 => ((H.2.2.2.2.2.2.1 hc13).2 μ10 rv11 hq12)⟩⟩, fun hc13 => ⟨c_145, (H.2.2.2.2.2.2.2 hc13).1, ⟨c_135, rfl, trivial, (H.2.2.2.2.2.2.2 hc13).2⟩⟩, trivial⟩⟩
set_option maxRecDepth 20000 in
theorem vc_X5_takeLine_100 {R : Mem → Option AV → Prop} {i : Int} {μ : Mem} (H : P_X5_isNumber 145 (i + 1) 0 999 μ ∧ (∀ (μ14 : Mem) (rv15 : Int), Q_X5_isNumber 145 (i + 1) 0 999 μ μ14 rv15 → (0 ≤ rv15 ∧ rv15 ≤ 1) ∧ R μ14 (some (kI rv15)))) : V_X5_takeLine R 100 [(0, kR 145), (2, kI i)] μ := by
  refine vm_step2 mt_X5_takeLine ok_X5_takeLine [(100, [0, 2]), (123, [0, 2])] 1000 ?_
  show isC 145 5 ∧ P_X5_isNumber 145 (i + 1) 0 999 μ ∧ (∀ (μ14 : Mem) (rv15 : Int), Q_X5_isNumber 145 (i + 1) 0 999 μ μ14 rv15 → (0 ≤ rv15 ∧ rv15 ≤ 1) ∧ R μ14 (some (kI rv15)))
  exact ⟨c_145, H.1, fun μ14 rv15 hq16 => (H.2 μ14 rv15 hq16)⟩
set_option maxRecDepth 20000 in
theorem vc_X5_takeLine_123 {R : Mem → Option AV → Prop} {i : Int} {μ : Mem} (H : P_X5_isNumber 145 (i + 1) 0 12 μ ∧ (∀ (μ17 : Mem) (rv18 : Int), Q_X5_isNumber 145 (i + 1) 0 12 μ μ17 rv18 → (0 ≤ rv18 ∧ rv18 ≤ 1) ∧ R μ17 (some (kI rv18)))) : V_X5_takeLine R 123 [(0, kR 145), (2, kI i)] μ := by
  refine vm_step2 mt_X5_takeLine ok_X5_takeLine [(100, [0, 2]), (123, [0, 2])] 1000 ?_
  show isC 145 5 ∧ P_X5_isNumber 145 (i + 1) 0 12 μ ∧ (∀ (μ17 : Mem) (rv18 : Int), Q_X5_isNumber 145 (i + 1) 0 12 μ μ17 rv18 → (0 ≤ rv18 ∧ rv18 ≤ 1) ∧ R μ17 (some (kI rv18)))
  exact ⟨c_145, H.1, fun μ17 rv18 hq19 => (H.2 μ17 rv18 hq19)⟩
theorem body_X5_takeLine {o d i : Int} {μ : Mem} {R : Mem → Option AV → Prop} (h : P_X5_takeLine o d i μ) (hR : ∀ (μ' : Mem) (r : Int), Q_X5_takeLine o d i μ μ' r → R μ' (some (kI r))) : V_X5_takeLine R 0 [(0, kR o), (1, kR d), (2, kI i)] μ := by
  obtain ⟨rfl, rfl, hi6, hb, hT, hl, hk, hv⟩ := h
  have tb := hb.1
  have kb := (Km_bd hb i).1
  have pv : ∀ j : Int, 0 ≤ j → j ≤ 1000 → P_X5_valueAt 145 j μ := fun j j0 j1 => ⟨rfl, rr (by omega), by omega⟩
  unfold Q_X5_takeLine at hR
  -- prize, move
  have only : ∀ (f : Int) (g : Nat) (hi : Int), (f = 5 ∧ g = 2) ∨ (f = 6 ∧ g = 3) → r32 hi → r32 (Vm μ (i + 1)) → lineV (Km μ) (Sm μ) (Vm μ) i (tv μ 135) = onlV (Sm μ) (Vm μ) i (tv μ 135) g hi → P_X5_isNumber 145 (i + 1) 0 hi (updm μ 135 f (Vm μ (i + 1))) ∧ (∀ (μ14 : Mem) (rv15 : Int), Q_X5_isNumber 145 (i + 1) 0 hi (updm μ 135 f (Vm μ (i + 1))) μ14 rv15 → (0 ≤ rv15 ∧ rv15 ≤ 1) ∧ R μ14 (some (kI rv15))) := by
    intro f g hi hfg rhi v1 hq
    have hf : ∀ y : Int, (y < 135 ∨ 144 < y) → updm μ 135 f (Vm μ (i + 1)) y = μ y := fun y hy => ru_ne (by omega)
    have htv : tv (updm μ 135 f (Vm μ (i + 1))) 135 = setP (tv μ 135) g (Vm μ (i + 1)) := by
      rcases hfg with ⟨e1, e2⟩ | ⟨e1, e2⟩ <;> subst e1 <;> subst e2
      · exact tv_p5
      · exact tv_p6
    generalize updm μ 135 f (Vm μ (i + 1)) = m1 at hf htv
    have hfr := rd_frame hf
    refine ⟨⟨rfl, rr (by omega), TkB_frame hb hf, by rw [hfr.2.2]; exact v1, rr (by omega), rhi⟩, fun m r q => ?_⟩
    unfold Q_X5_isNumber at q
    rw [hfr.2.2, hfr.2.1] at q
    rw [hq] at hR
    unfold onlV at hR
    by_cases c2 : 0 ≤ Vm μ (i + 1) ∧ Vm μ (i + 1) ≤ hi
    · obtain ⟨q1, q2⟩ := q.1 c2
      rw [if_neg (fun q => q c2)] at hR
      subst q1; subst q2
      exact ⟨by omega, hR m 1 ⟨by omega, fun _ => ⟨rfl, htv, hf⟩, fun q => absurd rfl q⟩⟩
    · rw [if_pos c2] at hR
      have h := lr_ref (v := tv μ 135) (q.2 c2) hf (show (2 : Int) ≠ 0 by omega)
      exact ⟨h.1, hR m r h⟩
  have nb2 : Km μ i = 5 ∨ Km μ i = 6 ∨ Km μ i = 7 → nbK (Km μ i) = 2 := fun c => by
    rcases c with e | e | e <;> rw [e] <;> rfl
  refine vc_X5_takeLine_0 ?_
  have ek : F_X5_kindAt 145 i μ = Km μ i := rfl
  have ev : F_X5_valueAt 145 (i + 1) μ = Vm μ (i + 1) := rfl
  rw [ek, ev]
  refine ⟨⟨rfl, rr (by omega), by omega⟩, rr (by omega), fun c => ?_, fun c => ?_, fun c => ?_, fun c => ?_, fun c => ?_, fun c => ?_⟩
  · have e9 : Km μ i = 9 := by omega
    have v1 := hv 1 (by omega) (by rw [e9]; decide)
    refine ⟨pv _ (by omega) (by omega), vc_X5_takeLine_123 (only 6 3 12 (Or.inr ⟨rfl, rfl⟩) (rr (by omega)) v1 ?_)⟩
    unfold lineV
    rw [if_neg (by omega), if_neg (by omega), if_neg (by omega), if_neg (by omega), if_neg (by omega)]
  · have n3 : nbK (Km μ i) = 3 := by rw [c]; rfl
    have el : lineV (Km μ) (Sm μ) (Vm μ) i (tv μ 135) = lanV (Sm μ) (Vm μ) i (tv μ 135) := by unfold lineV; rw [if_pos c]
    rw [el] at hR
    exact ⟨⟨rfl, rfl, hi6, hb, hT, hl, hv 1 (by omega) (by omega), hv 2 (by omega) (by omega), hv 3 (by omega) (by omega)⟩, fun m r q => ⟨q.1, hR m r q⟩⟩
  · have n2 := nb2 (Or.inl c)
    have el : lineV (Km μ) (Sm μ) (Vm μ) i (tv μ 135) = plcV (Sm μ) (Vm μ) i (tv μ 135) 4 0 99 := by unfold lineV; rw [if_neg (by omega), if_pos c]
    rw [el] at hR
    exact ⟨⟨rfl, rfl, Or.inl rfl, a_138, hi6, hb, hT, hv 1 (by omega) (by omega), hv 2 (by omega) (by omega), rr (by omega), rr (by omega)⟩, fun m r q => ⟨q.1, hR m r q⟩⟩
  · have n2 := nb2 (Or.inr (Or.inl c))
    have el : lineV (Km μ) (Sm μ) (Vm μ) i (tv μ 135) = plcV (Sm μ) (Vm μ) i (tv μ 135) 5 1 12 := by unfold lineV; rw [if_neg (by omega), if_neg (by omega), if_pos c]
    rw [el] at hR
    exact ⟨⟨rfl, rfl, Or.inr (Or.inl rfl), a_139, hi6, hb, hT, hv 1 (by omega) (by omega), hv 2 (by omega) (by omega), rr (by omega), rr (by omega)⟩, fun m r q => ⟨q.1, hR m r q⟩⟩
  · have n2 := nb2 (Or.inr (Or.inr c))
    have el : lineV (Km μ) (Sm μ) (Vm μ) i (tv μ 135) = plcV (Sm μ) (Vm μ) i (tv μ 135) 6 1 99 := by unfold lineV; rw [if_neg (by omega), if_neg (by omega), if_neg (by omega), if_pos c]
    rw [el] at hR
    exact ⟨⟨rfl, rfl, Or.inr (Or.inr rfl), a_140, hi6, hb, hT, hv 1 (by omega) (by omega), hv 2 (by omega) (by omega), rr (by omega), rr (by omega)⟩, fun m r q => ⟨q.1, hR m r q⟩⟩
  · have v1 := hv 1 (by omega) (by rw [c]; decide)
    refine ⟨pv _ (by omega) (by omega), vc_X5_takeLine_100 (only 5 2 999 (Or.inl ⟨rfl, rfl⟩) (rr (by omega)) v1 ?_)⟩
    unfold lineV
    rw [if_neg (by omega), if_neg (by omega), if_neg (by omega), if_neg (by omega), if_pos c]
theorem ct_X5_takeLine : Ct mX5_takeLine 3 72 0 0 (nrmS S_X5_takeLine) := by
  refine ct_vm (own := RX5) (by decide +kernel) rfl ?_ ?_
  · intro as μ Q hS
    unfold S_X5_takeLine at hS
    split at hS
    · exact Nat.le_of_ble_eq_true rfl
    · exact hS.elim
  · intro as μ R hS
    unfold S_X5_takeLine at hS
    split at hS
    · exact body_X5_takeLine hS.1 hS.2
    · exact hS.elim
