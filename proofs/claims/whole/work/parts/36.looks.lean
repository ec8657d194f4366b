/-- how likely it still lies at a behind d looks there, and how much the next one finds: in parts of 12^8 hundredths -/
def partV (v : TV) (a d : Int) : Int := v 4 a * ((12 - v 5 a) ^ d.toNat * 12 ^ (8 - d).toNat)
def findV (v : TV) (a d : Int) : Int := v 4 a * v 5 a * ((12 - v 5 a) ^ d.toNat * 12 ^ (7 - d).toNat)
theorem pow_le {x z : Int} (x0 : 0 ≤ x) (h : x ≤ z) : ∀ n : Nat, x ^ n ≤ z ^ n
  | 0 => by rw [Int.pow_zero, Int.pow_zero]; exact Int.le_refl 1
  | n + 1 => by
    rw [Int.pow_succ, Int.pow_succ]
    exact Int.mul_le_mul (pow_le x0 h n) h x0 (Int.pow_nonneg (by omega))
theorem pw12 {x d e : Int} (x0 : 0 ≤ x) (x1 : x ≤ 12) (d0 : 0 ≤ d) (he : 0 ≤ e) : 0 ≤ x ^ d.toNat * 12 ^ e.toNat ∧ x ^ d.toNat * 12 ^ e.toNat ≤ 12 ^ (d + e).toNat := by
  have h1 : 0 ≤ x ^ d.toNat := Int.pow_nonneg x0
  have h2 : x ^ d.toNat ≤ 12 ^ d.toNat := pow_le x0 x1 d.toNat
  have h3 : (0 : Int) ≤ 12 ^ e.toNat := Int.pow_nonneg (by omega)
  have h4 : (d + e).toNat = d.toNat + e.toNat := by omega
  rw [h4, Int.pow_add]
  exact ⟨Int.mul_nonneg h1 h3, Int.mul_le_mul_of_nonneg_right h2 h3⟩
theorem partV_bd {v : TV} (ok : TVok v) {a d : Int} (a0 : 0 ≤ a) (a1 : a < 8) (d0 : 0 ≤ d) (d1 : d ≤ 8) : 0 ≤ partV v a d ∧ partV v a d ≤ 42568187904 := by
  have hc := (ok.2.2.2.1 a a0 a1)
  have hp := pw12 (x := 12 - v 5 a) (d := d) (e := 8 - d) (by omega) (by omega) d0 (by omega)
  have he : (d + (8 - d)).toNat = 8 := by omega
  rw [he] at hp
  have h12 : (12 : Int) ^ 8 = 429981696 := by decide +kernel
  have := mul_bd (B := 429981696) hc.1.1 hc.1.2 hp.1 (by omega)
  unfold partV
  omega
theorem findV_bd {v : TV} (ok : TVok v) {a d : Int} (a0 : 0 ≤ a) (a1 : a < 8) (d0 : 0 ≤ d) (d1 : d ≤ 7) : 0 ≤ findV v a d ∧ findV v a d ≤ 42568187904 := by
  have hc := (ok.2.2.2.1 a a0 a1)
  have hp := pw12 (x := 12 - v 5 a) (d := d) (e := 7 - d) (by omega) (by omega) d0 (by omega)
  have he : (d + (7 - d)).toNat = 7 := by omega
  rw [he] at hp
  have h12 : (12 : Int) ^ 7 = 35831808 := by decide +kernel
  have h1 := mul_bd (A := 99) (B := 12) hc.1.1 hc.1.2 (show 0 ≤ v 5 a by omega) hc.2.1.2
  have := mul_bd (A := 1188) (B := 35831808) h1.1 (by omega) hp.1 (by omega)
  unfold findV
  omega
theorem part_12 {v : TV} {a d : Int} (d0 : 0 ≤ d) (d1 : d ≤ 7) : partV v a d = 12 * (v 4 a * ((12 - v 5 a) ^ d.toNat * 12 ^ (7 - d).toNat)) := by
  unfold partV
  have h : (8 - d).toNat = (7 - d).toNat + 1 := by omega
  rw [h, Int.pow_succ]
  generalize (12 - v 5 a) ^ d.toNat = x
  generalize (12 : Int) ^ (7 - d).toNat = y
  simp only [Int.mul_comm, Int.mul_left_comm, Int.mul_assoc]
theorem part_find {v : TV} {a d : Int} (ok : TVok v) (a0 : 0 ≤ a) (a1 : a < 8) (d0 : 0 ≤ d) (d1 : d ≤ 7) : Int.tdiv (partV v a d) 12 * v 5 a = findV v a d := by
  have hb := (partV_bd ok a0 a1 d0 (by omega)).1
  rw [Int.tdiv_eq_ediv_of_nonneg hb, part_12 d0 d1, Int.mul_ediv_cancel_left _ (by omega)]
  unfold findV
  simp only [Int.mul_comm, Int.mul_left_comm, Int.mul_assoc]
theorem part_next {v : TV} {a d : Int} (d0 : 0 ≤ d) (d1 : d ≤ 7) : partV v a d - findV v a d = partV v a (d + 1) := by
  rw [part_12 d0 d1]
  unfold findV partV
  have h1 : (8 - (d + 1)).toNat = (7 - d).toNat := by omega
  have h2 : (d + 1).toNat = d.toNat + 1 := by omega
  rw [h1, h2, Int.pow_succ]
  generalize (12 - v 5 a) ^ d.toNat = x
  generalize (12 : Int) ^ (7 - d).toNat = y
  generalize v 4 a = c
  generalize v 5 a = g
  grind
def P_X1_findsAt (o t a : Int) (μ : Mem) : Prop := o = 180 ∧ TB μ t ∧ (0 ≤ a ∧ a < 8) ∧ (0 ≤ μ 185 a ∧ μ 185 a ≤ 7) ∧ μ 184 a = partV (tv μ t) a (μ 185 a)
def F_X1_findsAt (_ t a : Int) (μ : Mem) : Int := findV (tv μ t) a (μ 185 a)
def S_X1_findsAt : S0t := fun as μ Q => match as with
  | [(2, x0), (2, x1), (0, x2)] => P_X1_findsAt x0 x1 x2 μ ∧ Q μ (some (kL (F_X1_findsAt x0 x1 x2 μ)))
  | _ => False
theorem mono_X1_findsAt : Mono S_X1_findsAt := by
  intro as μ Q Q' h hS
  unfold S_X1_findsAt at hS ⊢
  split at hS
  · exact ⟨hS.1, h _ _ hS.2⟩
  · exact hS.elim
def iX1_findsAt : Inf := (kX1_findsAt, fTX1, pTX1, cTX1, lTX1, sTX1, [])
theorem ok_X1_findsAt : infOK iX1_findsAt mX1_findsAt RX1 0 0 := ⟨kkX1_findsAt, fTX1_ok, pTX1_ok _, cTX1_ok, lTX1_ok, sTX1_ok, c_nil⟩
theorem mt_X1_findsAt : mtOK [] RX1 0 0 := mt_nil
abbrev V_X1_findsAt (R : Mem → Option AV → Prop) (pc : Nat) (lc : List (Nat × AV)) (μ : Mem) : Prop := VM mX1_findsAt RX1 0 0 R pc lc [] μ
set_option maxRecDepth 20000 in
theorem vc_X1_findsAt_0 {R : Mem → Option AV → Prop} {a t : Int} {μ : Mem} (ht : isT t) (H : (0 ≤ a ∧ a < 8) ∧ r64 (μ 184 a) ∧ (0 ≤ a ∧ a < 8) ∧ r32 (μ (t + 4) a) ∧ R μ (some (kL ((Int.tdiv (μ 184 a) 12) * (μ (t + 4) a))))) : V_X1_findsAt R 0 [(0, kR 180), (1, kR t), (2, kI a)] μ := by
  refine vm_step2 mt_X1_findsAt ok_X1_findsAt [] 1000 ?_
  show isC 180 1 ∧ inA 184 1 a ∧ (r64 (μ 184 a) ∧ r64 (12 : Int) ∧ (12 : Int) ≠ 0) ∧ isC t 7 ∧ inA (t + 4) 0 a ∧ r32 (μ (t + 4) a) ∧ R μ (some (kL ((Int.tdiv (μ 184 a) 12) * (μ (t + 4) a))))
  exact ⟨c_180, ⟨isArr.in a_184 H.1.1 H.1.2, ⟨⟨H.2.1, by unfold r64; omega, by omega⟩, ⟨isT_C ht, ⟨isArr.in (T_dog ht) H.2.2.1.1 H.2.2.1.2, ⟨H.2.2.2.1, H.2.2.2.2⟩⟩⟩⟩⟩⟩
theorem body_X1_findsAt {o t a : Int} {μ : Mem} {R : Mem → Option AV → Prop} (h : P_X1_findsAt o t a μ) (hR : R μ (some (kL (F_X1_findsAt o t a μ)))) : V_X1_findsAt R 0 [(0, kR o), (1, kR t), (2, kI a)] μ := by
  obtain ⟨rfl, ⟨ht, ok⟩, ha, hd, hp⟩ := h
  have hb := partV_bd ok ha.1 ha.2 hd.1 (by omega)
  have hc := ok.2.2.2.1 a ha.1 ha.2
  refine vc_X1_findsAt_0 ht ?_
  rw [hp, e5 μ t ha.1 ha.2]
  exact ⟨ha, rl (by omega), ha, rr (by omega), l_eq hR (part_find ok ha.1 ha.2 hd.1 hd.2).symm⟩
theorem ct_X1_findsAt : Ct mX1_findsAt 0 0 0 0 (nrmS S_X1_findsAt) := by
  refine ct_vm (own := RX1) (by decide +kernel) rfl ?_ ?_
  · intro as μ Q hS
    unfold S_X1_findsAt at hS
    split at hS
    · exact Nat.le_of_ble_eq_true rfl
    · exact hS.elim
  · intro as μ R hS
    unfold S_X1_findsAt at hS
    split at hS
    · exact body_X1_findsAt hS.1 hS.2
    · exact hS.elim
def chooseV (v : TV) (d : Int → Int) (n : Int) : Int := fold (fun best a => if 0 < v 4 a ∧ d a < 8 ∧ (best = -1 ∨ findV v best (d best) * v 6 a < findV v a (d a) * v 6 best) then a else best) (-1) n
theorem chooseV_s {v : TV} {d : Int → Int} {n : Int} (h : 0 ≤ n) : chooseV v d (n + 1) = if 0 < v 4 n ∧ d n < 8 ∧ (chooseV v d n = -1 ∨ findV v (chooseV v d n) (d (chooseV v d n)) * v 6 n < findV v n (d n) * v 6 (chooseV v d n)) then n else chooseV v d n := fold_s h
theorem chooseV_ok {v : TV} {d : Int → Int} {n : Int} (hn : 0 ≤ n) : chooseV v d n = -1 ∨ ((0 ≤ chooseV v d n ∧ chooseV v d n < n) ∧ 0 < v 4 (chooseV v d n) ∧ d (chooseV v d n) < 8) := by
  refine fold_ind (P := fun n b => b = -1 ∨ ((0 ≤ b ∧ b < n) ∧ 0 < v 4 b ∧ d b < 8)) (Or.inl rfl) (fun i b h0 h1 ih => ?_) hn
  by_cases hc : 0 < v 4 i ∧ d i < 8 ∧ (b = -1 ∨ findV v b (d b) * v 6 i < findV v i (d i) * v 6 b)
  · rw [if_pos hc]
    exact Or.inr ⟨⟨h0, by omega⟩, hc.1, hc.2.1⟩
  · rw [if_neg hc]
    rcases ih with h | ⟨h, h2, h3⟩
    · exact Or.inl h
    · exact Or.inr ⟨by omega, h2, h3⟩
def lookM (μ : Mem) (t : Int) : Prop := ∀ a : Int, 0 ≤ a → a < tv μ t 0 0 → (0 ≤ μ 185 a ∧ μ 185 a ≤ 8) ∧ μ 184 a = partV (tv μ t) a (μ 185 a)
def P_X1_likeliest (o t : Int) (μ : Mem) : Prop := o = 180 ∧ TB μ t ∧ lookM μ t
def F_X1_likeliest (_ t : Int) (μ : Mem) : Int := chooseV (tv μ t) (μ 185) (tv μ t 0 0)
def S_X1_likeliest : S0t := fun as μ Q => match as with
  | [(2, x0), (2, x1)] => P_X1_likeliest x0 x1 μ ∧ Q μ (some (kI (F_X1_likeliest x0 x1 μ)))
  | _ => False
theorem mono_X1_likeliest : Mono S_X1_likeliest := by
  intro as μ Q Q' h hS
  unfold S_X1_likeliest at hS ⊢
  split at hS
  · exact ⟨hS.1, h _ _ hS.2⟩
  · exact hS.elim
def iX1_likeliest : Inf := (kX1_likeliest, fTX1, pTX1, cTX1, lTX1, sTX1, [(49, 0, 2, 1, S_X1_findsAt)])
theorem ok_X1_likeliest : infOK iX1_likeliest mX1_likeliest RX1 1 22 := ⟨kkX1_likeliest, fTX1_ok, pTX1_ok _, cTX1_ok, lTX1_ok, sTX1_ok, c_cons ⟨mX1_findsAt, 0, 0, ct_X1_findsAt, mmX1_findsAt, vvX1_findsAt, lkX1_49, ⟨by decide, by decide⟩, ⟨_, _, rfl⟩, by decide, mono_X1_findsAt⟩ (c_nil)⟩
theorem mt_X1_likeliest : mtOK [] RX1 1 22 := mt_nil
abbrev V_X1_likeliest (R : Mem → Option AV → Prop) (pc : Nat) (lc : List (Nat × AV)) (μ : Mem) : Prop := VM mX1_likeliest RX1 1 22 R pc lc [] μ
set_option maxRecDepth 20000 in
theorem vc_X1_likeliest_0 {R : Mem → Option AV → Prop} {t : Int} {μ : Mem} (ht : isT t) (H : V_X1_likeliest R 4 [(0, kR 180), (1, kR t), (2, kI (-1)), (3, kI 0)] μ) : V_X1_likeliest R 0 [(0, kR 180), (1, kR t)] μ := by
  refine vm_step2 mt_X1_likeliest ok_X1_likeliest [(4, [0, 1, 2, 3])] 1000 ?_
  show V_X1_likeliest R 4 [(0, kR 180), (1, kR t), (2, kI (-1)), (3, kI 0)] μ
  exact H
set_option maxRecDepth 20000 in
theorem vc_X1_likeliest_4 {R : Mem → Option AV → Prop} {best a t : Int} {μ : Mem} (ht : isT t) (H : r32 a ∧ r32 (μ t 1) ∧ (((μ t 1) ≤ a) → R μ (some (kI best))) ∧ (¬ ((μ t 1) ≤ a) → (0 ≤ a ∧ a < 8) ∧ r32 (μ (t + 3) a) ∧ (((μ (t + 3) a) ≤ 0) → V_X1_likeliest R 4 [(0, kR 180), (1, kR t), (2, kI best), (3, kI (a + 1))] μ) ∧ (¬ ((μ (t + 3) a) ≤ 0) → (0 ≤ a ∧ a < 8) ∧ r32 (μ 185 a) ∧ (((8 : Int) ≤ (μ 185 a)) → V_X1_likeliest R 4 [(0, kR 180), (1, kR t), (2, kI best), (3, kI (a + 1))] μ) ∧ (¬ ((8 : Int) ≤ (μ 185 a)) → r32 best ∧ ((best = (-1 : Int)) → V_X1_likeliest R 4 [(0, kR 180), (1, kR t), (2, kI a), (3, kI (a + 1))] μ) ∧ (¬ (best = (-1 : Int)) → P_X1_findsAt 180 t a μ ∧ (0 ≤ best ∧ best < 8) ∧ r32 (μ (t + 5) best) ∧ P_X1_findsAt 180 t best μ ∧ (0 ≤ a ∧ a < 8) ∧ r32 (μ (t + 5) a) ∧ r64 ((F_X1_findsAt 180 t a μ) * (μ (t + 5) best)) ∧ r64 ((F_X1_findsAt 180 t best μ) * (μ (t + 5) a)) ∧ ((((F_X1_findsAt 180 t a μ) * (μ (t + 5) best)) ≤ ((F_X1_findsAt 180 t best μ) * (μ (t + 5) a))) → V_X1_likeliest R 4 [(0, kR 180), (1, kR t), (2, kI best), (3, kI (a + 1))] μ) ∧ (¬ (((F_X1_findsAt 180 t a μ) * (μ (t + 5) best)) ≤ ((F_X1_findsAt 180 t best μ) * (μ (t + 5) a))) → V_X1_likeliest R 4 [(0, kR 180), (1, kR t), (2, kI a), (3, kI (a + 1))] μ)))))) : V_X1_likeliest R 4 [(0, kR 180), (1, kR t), (2, kI best), (3, kI a)] μ := by
  refine vm_step2 mt_X1_likeliest ok_X1_likeliest [(4, [0, 1, 2, 3])] 1000 ?_
  show isC t 7 ∧ (r32 a ∧ r32 (μ t 1)) ∧ (((μ t 1) ≤ a) → R μ (some (kI best))) ∧ (¬ ((μ t 1) ≤ a) → isC t 7 ∧ inA (t + 3) 0 a ∧ r32 (μ (t + 3) a) ∧ (((μ (t + 3) a) ≤ 0) → V_X1_likeliest R 4 [(0, kR 180), (1, kR t), (2, kI best), (3, kI (a + 1))] μ) ∧ (¬ ((μ (t + 3) a) ≤ 0) → isC 180 1 ∧ inA 185 0 a ∧ (r32 (μ 185 a) ∧ r32 (8 : Int)) ∧ (((8 : Int) ≤ (μ 185 a)) → V_X1_likeliest R 4 [(0, kR 180), (1, kR t), (2, kI best), (3, kI (a + 1))] μ) ∧ (¬ ((8 : Int) ≤ (μ 185 a)) → (r32 best ∧ r32 (-1 : Int)) ∧ ((best = (-1 : Int)) → V_X1_likeliest R 4 [(0, kR 180), (1, kR t), (2, kI a), (3, kI (a + 1))] μ) ∧ (¬ (best = (-1 : Int)) → isC 180 1 ∧ P_X1_findsAt 180 t a μ ∧ isC t 7 ∧ inA (t + 5) 0 best ∧ r32 (μ (t + 5) best) ∧ isC 180 1 ∧ P_X1_findsAt 180 t best μ ∧ isC t 7 ∧ inA (t + 5) 0 a ∧ r32 (μ (t + 5) a) ∧ (r64 ((F_X1_findsAt 180 t a μ) * (μ (t + 5) best)) ∧ r64 ((F_X1_findsAt 180 t best μ) * (μ (t + 5) a))) ∧ r32 (lcm3 ((F_X1_findsAt 180 t a μ) * (μ (t + 5) best)) ((F_X1_findsAt 180 t best μ) * (μ (t + 5) a))) ∧ ((lcm3 ((F_X1_findsAt 180 t a μ) * (μ (t + 5) best)) ((F_X1_findsAt 180 t best μ) * (μ (t + 5) a)) ≤ 0) → V_X1_likeliest R 4 [(0, kR 180), (1, kR t), (2, kI best), (3, kI (a + 1))] μ) ∧ (¬ (lcm3 ((F_X1_findsAt 180 t a μ) * (μ (t + 5) best)) ((F_X1_findsAt 180 t best μ) * (μ (t + 5) a)) ≤ 0) → V_X1_likeliest R 4 [(0, kR 180), (1, kR t), (2, kI a), (3, kI (a + 1))] μ)))))
  exact ⟨isT_C ht, ⟨⟨H.1, H.2.1⟩, fun hc5 => (H.2.2.1 hc5), fun hc5 => ⟨isT_C ht, ⟨isArr.in (T_chance ht) (H.2.2.2 hc5).1.1 (H.2.2.2 hc5).1.2, ⟨(H.2.2.2 hc5).2.1, fun hc4 => ((H.2.2.2 hc5).2.2.1 hc4), fun hc4 => ⟨c_180, ⟨isArr.in a_185 ((H.2.2.2 hc5).2.2.2 hc4).1.1 ((H.2.2.2 hc5).2.2.2 hc4).1.2, ⟨⟨((H.2.2.2 hc5).2.2.2 hc4).2.1, by unfold r32; omega⟩, fun hc3 => (((H.2.2.2 hc5).2.2.2 hc4).2.2.1 hc3), fun hc3 => ⟨⟨(((H.2.2.2 hc5).2.2.2 hc4).2.2.2 hc3).1, by unfold r32; omega⟩, fun hc2 => ((((H.2.2.2 hc5).2.2.2 hc4).2.2.2 hc3).2.1 hc2), fun hc2 => ⟨c_180, ((((H.2.2.2 hc5).2.2.2 hc4).2.2.2 hc3).2.2 hc2).1, ⟨isT_C ht, ⟨isArr.in (T_dig ht) ((((H.2.2.2 hc5).2.2.2 hc4).2.2.2 hc3).2.2 hc2).2.1.1 ((((H.2.2.2 hc5).2.2.2 hc4).2.2.2 hc3).2.2 hc2).2.1.2, ⟨((((H.2.2.2 hc5).2.2.2 hc4).2.2.2 hc3).2.2 hc2).2.2.1, ⟨c_180, ((((H.2.2.2 hc5).2.2.2 hc4).2.2.2 hc3).2.2 hc2).2.2.2.1, ⟨isT_C ht, ⟨isArr.in (T_dig ht) ((((H.2.2.2 hc5).2.2.2 hc4).2.2.2 hc3).2.2 hc2).2.2.2.2.1.1 ((((H.2.2.2 hc5).2.2.2 hc4).2.2.2 hc3).2.2 hc2).2.2.2.2.1.2, ⟨((((H.2.2.2 hc5).2.2.2 hc4).2.2.2 hc3).2.2 hc2).2.2.2.2.2.1, ⟨⟨((((H.2.2.2 hc5).2.2.2 hc4).2.2.2 hc3).2.2 hc2).2.2.2.2.2.2.1, ((((H.2.2.2 hc5).2.2.2 hc4).2.2.2 hc3).2.2 hc2).2.2.2.2.2.2.2.1⟩, lcm3_r _ _, fun hc1 => (((((H.2.2.2 hc5).2.2.2 hc4).2.2.2 hc3).2.2 hc2).2.2.2.2.2.2.2.2.1 (lcm_le.mp hc1)), fun hc1 => (((((H.2.2.2 hc5).2.2.2 hc4).2.2.2 hc3).2.2 hc2).2.2.2.2.2.2.2.2.2 (fun q => hc1 (lcm_le.mpr q)))⟩⟩⟩⟩⟩⟩⟩⟩⟩⟩⟩⟩⟩⟩⟩⟩⟩⟩
theorem body_X1_likeliest {o t : Int} {μ : Mem} {R : Mem → Option AV → Prop} (h : P_X1_likeliest o t μ) (hR : R μ (some (kI (F_X1_likeliest o t μ)))) : V_X1_likeliest R 0 [(0, kR o), (1, kR t)] μ := by
  obtain ⟨rfl, ⟨ht, ok⟩, hm⟩ := h
  have hp : 2 ≤ μ t 1 ∧ μ t 1 ≤ 8 := ok.1
  refine vc_X1_likeliest_0 ht ?_
  refine up_ind (P := fun a => V_X1_likeliest R 4 [(0, kR 180), (1, kR t), (2, kI (chooseV (tv μ t) (μ 185) a)), (3, kI a)] μ) (lo := 0) (hi := μ t 1) ?_ ?_ 0 (by omega) (by omega)
  · intro a a0 a1 ih
    have hc := ok.2.2.2.1 a a0 (by omega)
    obtain ⟨hd, hpa⟩ := hm a a0 a1
    rw [chooseV_s a0] at ih
    have hb := chooseV_ok (v := tv μ t) (d := μ 185) a0
    generalize chooseV (tv μ t) (μ 185) a = b at ih hb ⊢
    refine vc_X1_likeliest_4 ht ⟨rr (by omega), rr (by omega), fun c => absurd c (by omega), fun _ => ⟨⟨a0, by omega⟩, ?_⟩⟩
    rw [e4 μ t a0 (by omega)]
    refine ⟨rr (by omega), fun c => ?_, fun c => ⟨⟨a0, by omega⟩, rr (by omega), fun c2 => ?_, fun c2 => ⟨rr (by omega), fun c3 => ?_, fun c3 => ?_⟩⟩⟩
    · rw [if_neg (fun q => absurd q.1 (by omega))] at ih; exact ih
    · rw [if_neg (fun q => absurd q.2.1 (by omega))] at ih; exact ih
    · rw [if_pos ⟨by omega, by omega, Or.inl c3⟩] at ih; exact ih
    · rcases hb with hb | ⟨hb1, hb2, hb3⟩
      · exact absurd hb c3
      · obtain ⟨hdb, hpb⟩ := hm b hb1.1 (by show b < μ t 1; omega)
        have hcb := ok.2.2.2.1 b hb1.1 (by omega)
        have fa := findV_bd ok a0 (by omega) hd.1 (show μ 185 a ≤ 7 by omega)
        have fb := findV_bd ok hb1.1 (by omega) hdb.1 (show μ 185 b ≤ 7 by omega)
        have m1 := mul_bd (B := 99) fa.1 fa.2 (show 0 ≤ tv μ t 6 b by omega) hcb.2.2.2
        have m2 := mul_bd (B := 99) fb.1 fb.2 (show 0 ≤ tv μ t 6 a by omega) hc.2.2.2
        refine ⟨⟨rfl, ⟨ht, ok⟩, ⟨a0, by omega⟩, ⟨hd.1, by omega⟩, hpa⟩, ⟨hb1.1, by omega⟩, ?_⟩
        rw [e6 μ t hb1.1 (by omega), e6 μ t a0 (by omega)]
        unfold F_X1_findsAt
        refine ⟨rr (by omega), ⟨rfl, ⟨ht, ok⟩, ⟨hb1.1, by omega⟩, ⟨hdb.1, by omega⟩, hpb⟩, ⟨a0, by omega⟩, rr (by omega), rl (by omega), rl (by omega), fun c4 => ?_, fun c4 => ?_⟩
        · rw [if_neg (fun q => by rcases q.2.2 with q | q <;> omega)] at ih; exact ih
        · rw [if_pos ⟨by omega, by omega, Or.inr (by omega)⟩] at ih; exact ih
  · exact vc_X1_likeliest_4 ht ⟨rr (by omega), rr (by omega), fun _ => hR, fun c => absurd (Int.le_refl _) c⟩
theorem ct_X1_likeliest : Ct mX1_likeliest 1 22 0 0 (nrmS S_X1_likeliest) := by
  refine ct_vm (own := RX1) (by decide +kernel) rfl ?_ ?_
  · intro as μ Q hS
    unfold S_X1_likeliest at hS
    split at hS
    · exact Nat.le_of_ble_eq_true rfl
    · exact hS.elim
  · intro as μ R hS
    unfold S_X1_likeliest at hS
    split at hS
    · exact body_X1_likeliest hS.1 hS.2
    · exact hS.elim
/-- the first of 0 .. n at which f is greatest -/
def maxAt (f : Int → Int) (n : Int) : Int := fold (fun b i => if f b < f (i + 1) then i + 1 else b) 0 n
theorem maxAt_s {f : Int → Int} {n : Int} (h : 0 ≤ n) : maxAt f (n + 1) = if f (maxAt f n) < f (n + 1) then n + 1 else maxAt f n := fold_s h
theorem maxAt_bd {f : Int → Int} {n : Int} (h : 0 ≤ n) : 0 ≤ maxAt f n ∧ maxAt f n ≤ n := fold_ind (P := fun n b => 0 ≤ b ∧ b ≤ n) (by omega) (fun i b h0 _ ih => by
  by_cases hc : f b < f (i + 1)
  · rw [if_pos hc]; omega
  · rw [if_neg hc]; omega) h
def P_X1_greatestGain (o : Int) (μ : Mem) : Prop := o = 180 ∧ (0 ≤ μ 180 5 ∧ μ 180 5 ≤ 64) ∧ ∀ n : Int, 0 ≤ n → n ≤ μ 180 5 → r64 (μ 183 n)
def F_X1_greatestGain (_ : Int) (μ : Mem) : Int := maxAt (μ 183) (μ 180 5)
def S_X1_greatestGain : S0t := fun as μ Q => match as with
  | [(2, x0)] => P_X1_greatestGain x0 μ ∧ Q μ (some (kI (F_X1_greatestGain x0 μ)))
  | _ => False
theorem mono_X1_greatestGain : Mono S_X1_greatestGain := by
  intro as μ Q Q' h hS
  unfold S_X1_greatestGain at hS ⊢
  split at hS
  · exact ⟨hS.1, h _ _ hS.2⟩
  · exact hS.elim
def iX1_greatestGain : Inf := (kX1_greatestGain, fTX1, pTX1, cTX1, lTX1, sTX1, [])
theorem ok_X1_greatestGain : infOK iX1_greatestGain mX1_greatestGain RX1 0 0 := ⟨kkX1_greatestGain, fTX1_ok, pTX1_ok _, cTX1_ok, lTX1_ok, sTX1_ok, c_nil⟩
theorem mt_X1_greatestGain : mtOK [] RX1 0 0 := mt_nil
abbrev V_X1_greatestGain (R : Mem → Option AV → Prop) (pc : Nat) (lc : List (Nat × AV)) (μ : Mem) : Prop := VM mX1_greatestGain RX1 0 0 R pc lc [] μ
set_option maxRecDepth 20000 in
theorem vc_X1_greatestGain_0 {R : Mem → Option AV → Prop} {μ : Mem} (H : V_X1_greatestGain R 4 [(0, kR 180), (1, kI 0), (2, kI 1)] μ) : V_X1_greatestGain R 0 [(0, kR 180)] μ := by
  refine vm_step2 mt_X1_greatestGain ok_X1_greatestGain [(4, [0, 1, 2])] 1000 ?_
  show V_X1_greatestGain R 4 [(0, kR 180), (1, kI 0), (2, kI 1)] μ
  exact H
set_option maxRecDepth 20000 in
theorem vc_X1_greatestGain_4 {R : Mem → Option AV → Prop} {best n : Int} {μ : Mem} (H : r32 n ∧ r32 (μ 180 5) ∧ (((μ 180 5) < n) → R μ (some (kI best))) ∧ (¬ ((μ 180 5) < n) → (0 ≤ n ∧ n < 65) ∧ (0 ≤ best ∧ best < 65) ∧ r64 (μ 183 n) ∧ r64 (μ 183 best) ∧ (((μ 183 n) ≤ (μ 183 best)) → V_X1_greatestGain R 4 [(0, kR 180), (1, kI best), (2, kI (n + 1))] μ) ∧ (¬ ((μ 183 n) ≤ (μ 183 best)) → V_X1_greatestGain R 4 [(0, kR 180), (1, kI n), (2, kI (n + 1))] μ))) : V_X1_greatestGain R 4 [(0, kR 180), (1, kI best), (2, kI n)] μ := by
  refine vm_step2 mt_X1_greatestGain ok_X1_greatestGain [(4, [0, 1, 2])] 1000 ?_
  show isC 180 1 ∧ (r32 n ∧ r32 (μ 180 5)) ∧ (((μ 180 5) < n) → R μ (some (kI best))) ∧ (¬ ((μ 180 5) < n) → isC 180 1 ∧ inA 183 1 n ∧ isC 180 1 ∧ inA 183 1 best ∧ (r64 (μ 183 n) ∧ r64 (μ 183 best)) ∧ r32 (lcm3 (μ 183 n) (μ 183 best)) ∧ ((lcm3 (μ 183 n) (μ 183 best) ≤ 0) → V_X1_greatestGain R 4 [(0, kR 180), (1, kI best), (2, kI (n + 1))] μ) ∧ (¬ (lcm3 (μ 183 n) (μ 183 best) ≤ 0) → V_X1_greatestGain R 4 [(0, kR 180), (1, kI n), (2, kI (n + 1))] μ))
  exact ⟨c_180, ⟨⟨H.1, H.2.1⟩, fun hc2 => (H.2.2.1 hc2), fun hc2 => ⟨c_180, ⟨isArr.in a_183 (H.2.2.2 hc2).1.1 (H.2.2.2 hc2).1.2, ⟨c_180, ⟨isArr.in a_183 (H.2.2.2 hc2).2.1.1 (H.2.2.2 hc2).2.1.2, ⟨⟨(H.2.2.2 hc2).2.2.1, (H.2.2.2 hc2).2.2.2.1⟩, lcm3_r _ _, fun hc1 => ((H.2.2.2 hc2).2.2.2.2.1 (lcm_le.mp hc1)), fun hc1 => ((H.2.2.2 hc2).2.2.2.2.2 (fun q => hc1 (lcm_le.mpr q)))⟩⟩⟩⟩⟩⟩⟩
theorem body_X1_greatestGain {o : Int} {μ : Mem} {R : Mem → Option AV → Prop} (h : P_X1_greatestGain o μ) (hR : R μ (some (kI (F_X1_greatestGain o μ)))) : V_X1_greatestGain R 0 [(0, kR o)] μ := by
  obtain ⟨rfl, hc, hr⟩ := h
  refine vc_X1_greatestGain_0 ?_
  have key := up_ind (P := fun n => V_X1_greatestGain R 4 [(0, kR 180), (1, kI (maxAt (μ 183) n)), (2, kI (n + 1))] μ) (lo := 0) (hi := μ 180 5) ?_ ?_ 0 (by omega) (by omega)
  · exact key
  · intro n n0 n1 ih
    rw [maxAt_s n0] at ih
    have hb := maxAt_bd (f := μ 183) n0
    refine vc_X1_greatestGain_4 ⟨rr (by omega), rr (by omega), fun c => absurd c (by omega), fun _ => ⟨by omega, by omega, hr _ (by omega) (by omega), hr _ (by omega) (by omega), fun c => ?_, fun c => ?_⟩⟩
    · rw [if_neg (by omega)] at ih; exact ih
    · rw [if_pos (by omega)] at ih; exact ih
  · exact vc_X1_greatestGain_4 ⟨rr (by omega), rr (by omega), fun _ => hR, fun c => absurd c (by omega)⟩
theorem ct_X1_greatestGain : Ct mX1_greatestGain 0 0 0 0 (nrmS S_X1_greatestGain) := by
  refine ct_vm (own := RX1) (by decide +kernel) rfl ?_ ?_
  · intro as μ Q hS
    unfold S_X1_greatestGain at hS
    split at hS
    · exact Nat.le_of_ble_eq_true rfl
    · exact hS.elim
  · intro as μ R hS
    unfold S_X1_greatestGain at hS
    split at hS
    · exact body_X1_greatestGain hS.1 hS.2
    · exact hS.elim
/-- how often each place was looked at behind n looks; which place the n-th look is at, or -1 -/
def nxtV (v : TV) (d : Int → Int) : Int → Int := if chooseV v d (v 0 0) = -1 then d else upd1 d (chooseV v d (v 0 0)) (d (chooseV v d (v 0 0)) + 1)
def stV (v : TV) (n : Int) : Int → Int := fold (fun d _ => nxtV v d) (fun _ => 0) n
theorem stV_s {v : TV} {n : Int} (h : 0 ≤ n) : stV v (n + 1) = nxtV v (stV v n) := fold_s h
def rowV (v : TV) (n : Int) : Int := chooseV v (stV v n) (v 0 0)
def cntV (v : TV) : Int := if frst (fun n => rowV v n == -1) 64 < 0 then 64 else frst (fun n => rowV v n == -1) 64
def leftV (v : TV) (d : Int → Int) : Int := sm (fun a => partV v a (d a)) (v 0 0)
def gainV (v : TV) (n : Int) : Int := fold (fun g i => g + v 2 0 * findV v (rowV v i) (stV v i (rowV v i)) - v 6 (rowV v i) * leftV v (stV v i)) 0 n
theorem gainV_s {v : TV} {n : Int} (h : 0 ≤ n) : gainV v (n + 1) = gainV v n + v 2 0 * findV v (rowV v n) (stV v n (rowV v n)) - v 6 (rowV v n) * leftV v (stV v n) := fold_s h
theorem stV_bd {v : TV} (hp : 0 ≤ v 0 0) {n : Int} (hn : 0 ≤ n) : ∀ a : Int, 0 ≤ stV v n a ∧ stV v n a ≤ 8 := by
  refine fold_ind (P := fun _ (d : Int → Int) => ∀ a : Int, 0 ≤ d a ∧ d a ≤ 8) (fun a => by omega) (fun i d _ _ ih => ?_) hn
  intro a
  unfold nxtV
  rcases chooseV_ok (v := v) (d := d) hp with h | ⟨h1, h2, h3⟩
  · rw [if_pos h]; exact ih a
  · rw [if_neg (by omega)]
    by_cases hb : a = chooseV v d (v 0 0)
    · rw [hb, r1_eq]
      have := ih (chooseV v d (v 0 0))
      omega
    · rw [r1_ne hb]; exact ih a
theorem rowV_ok {v : TV} (hp : 0 ≤ v 0 0) (n : Int) : rowV v n = -1 ∨ ((0 ≤ rowV v n ∧ rowV v n < v 0 0) ∧ 0 < v 4 (rowV v n) ∧ stV v n (rowV v n) < 8) := chooseV_ok hp
theorem up_from {P : Int → Prop} {lo hi : Int} (h0 : P lo) (hs : ∀ i, lo ≤ i → i < hi → P i → P (i + 1)) : ∀ i, lo ≤ i → i ≤ hi → P i := by
  have key : ∀ k : Nat, lo + k ≤ hi → P (lo + k) := by
    intro k
    induction k with
    | zero => intro _; simpa using h0
    | succ k ih =>
      intro hk
      have e : lo + ((k + 1 : Nat) : Int) = lo + (k : Int) + 1 := by omega
      rw [e]
      exact hs _ (by omega) (by omega) (ih (by omega))
  intro i i0 i1
  have := key (i - lo).toNat (by omega)
  rwa [show lo + (((i - lo).toNat : Nat) : Int) = i by omega] at this
theorem chooseV_cong {v : TV} {d d' : Int → Int} {n : Int} (hn : 0 ≤ n) (h : ∀ a, 0 ≤ a → a < n → d a = d' a) : chooseV v d n = chooseV v d' n := by
  have key : ∀ m : Int, 0 ≤ m → m ≤ n → chooseV v d m = chooseV v d' m := by
    refine up_from rfl ?_
    intro i i0 i1 ih
    rw [chooseV_s i0, chooseV_s i0, ← ih, h i i0 i1]
    rcases chooseV_ok (v := v) (d := d) i0 with hb | ⟨hb, -, -⟩
    · simp [hb]
    · rw [h _ hb.1 (by omega)]
  exact key n hn (Int.le_refl n)
theorem sm_upd {f : Int → Int} {g : Int → Int} {b n x : Int} (hb : 0 ≤ b) (hn : b < n) (h : ∀ i, 0 ≤ i → i < n → i ≠ b → g i = f i) (hx : g b = f b + x) : sm g n = sm f n + x := by
  have h1 : ∀ m : Int, 0 ≤ m → m ≤ b → sm g m = sm f m := fun m m0 m1 => sm_congr (fun i i0 i1 => h i i0 (by omega) (by omega))
  have h2 : ∀ m : Int, b + 1 ≤ m → m ≤ n → sm g m = sm f m + x := by
    refine up_from ?_ ?_
    · rw [sm_s hb, sm_s hb, h1 b hb (Int.le_refl b), hx]; omega
    · intro i i0 i1 ih
      rw [sm_s (by omega), sm_s (by omega), ih, h i (by omega) i1 (by omega)]; omega
  exact h2 n (by omega) (Int.le_refl n)
theorem leftV_s {v : TV} (ok : TVok v) {n : Int} (hn : 0 ≤ n) (hr : rowV v n ≠ -1) : leftV v (stV v (n + 1)) = leftV v (stV v n) - findV v (rowV v n) (stV v n (rowV v n)) := by
  have hp : 0 ≤ v 0 0 := by have := ok.1; omega
  rcases rowV_ok hp n with h | ⟨h1, h2, h3⟩
  · exact absurd h hr
  · have hs := stV_bd (v := v) hp hn (rowV v n)
    have e : stV v (n + 1) = upd1 (stV v n) (rowV v n) (stV v n (rowV v n) + 1) := by
      rw [stV_s hn]
      unfold nxtV
      exact if_neg hr
    unfold leftV
    rw [sm_upd (f := fun a => partV v a (stV v n a)) (x := - findV v (rowV v n) (stV v n (rowV v n))) h1.1 h1.2 (fun i _ _ hi => by rw [e, r1_ne hi])]
    · omega
    · show partV v (rowV v n) (stV v (n + 1) (rowV v n)) = _
      rw [e, r1_eq, ← part_next hs.1 (by omega)]
      omega
theorem leftV_bd {v : TV} (ok : TVok v) {d : Int → Int} (hd : ∀ a, 0 ≤ d a ∧ d a ≤ 8) : 0 ≤ leftV v d ∧ leftV v d ≤ 340545503232 := by
  have := sm_bd (f := fun a => partV v a (d a)) (n := v 0 0) (c := 0) (d := 42568187904) (fun i i0 i1 => partV_bd ok i0 (by have := ok.1; omega) (hd i).1 (hd i).2) (by have := ok.1; omega)
  have := ok.1
  unfold leftV
  omega
theorem leftV_0 {v : TV} (hp : 0 ≤ v 0 0) : leftV v (stV v 0) = sm (v 4) (v 0 0) * 429981696 := by
  have h12 : (12 : Int) ^ 8 = 429981696 := by decide +kernel
  refine fold_ind (P := fun n s => s = sm (v 4) n * 429981696) (by rw [sm_0]; omega) (fun i s h0 _ ih => ?_) hp
  rw [sm_s h0, ih]
  have e : partV v i (stV v 0 i) = v 4 i * 429981696 := by
    show v 4 i * ((12 - v 5 i) ^ (0 : Int).toNat * 12 ^ (8 - 0 : Int).toNat) = _
    have e1 : (0 : Int).toNat = 0 := rfl
    have e2 : (8 - 0 : Int).toNat = 8 := rfl
    rw [e1, e2, Int.pow_zero, Int.one_mul, h12]
  show sm (v 4) i * 429981696 + partV v i (stV v 0 i) = _
  rw [e, Int.add_mul]
theorem tv_frame {μ μ' : Mem} {t : Int} (h : ∀ z : Int, t ≤ z → z ≤ t + 9 → μ' z = μ z) : tv μ' t = tv μ t := by
  have h0 := h t (by omega) (by omega)
  have h1 := h (t + 1) (by omega) (by omega)
  have h3 := h (t + 3) (by omega) (by omega)
  have h4 := h (t + 4) (by omega) (by omega)
  have h5 := h (t + 5) (by omega) (by omega)
  have h6 := h (t + 6) (by omega) (by omega)
  have h7 := h (t + 7) (by omega) (by omega)
  have h8 := h (t + 8) (by omega) (by omega)
  have h9 := h (t + 9) (by omega) (by omega)
  unfold tv
  rw [h0, h1, h3, h4, h5, h6, h7, h8, h9]
theorem isT_hi {t : Int} (h : isT t) : 4 ≤ t ∧ t ≤ 135 := by
  have key : ∀ t ∈ towns, 4 ≤ t ∧ t ≤ 135 := by decide +kernel
  exact key t h
/-- the looks' rows, as far as n -/
def LookR (μ1 : Mem) (v : TV) (n : Int) : Prop := μ1 180 5 = n ∧ (∀ i : Int, 0 ≤ i → i < n → μ1 181 i = rowV v i) ∧ (∀ i : Int, 0 ≤ i → i ≤ n → μ1 182 i = leftV v (stV v i) ∧ μ1 183 i = gainV v i)
def P_X1_plan (o t : Int) (μ : Mem) : Prop := o = 180 ∧ TB μ t ∧ μ t 3 = sm (tv μ t 4) (tv μ t 0 0)
def Q_X1_plan (_ t : Int) (μ μ' : Mem) : Prop := LookR μ' (tv μ t) (cntV (tv μ t)) ∧ Same μ μ' 180 185
theorem cntV_at {v : TV} {n : Int} (n0 : 0 ≤ n) (n1 : n < 64) (h : ∀ i, 0 ≤ i → i < n → rowV v i ≠ -1) (hn : rowV v n = -1) : cntV v = n := by
  have := frst_at (q := fun n => rowV v n == -1) (n := 64) n0 n1 (by simpa using hn) (fun i i0 i1 => by simpa using h i i0 i1)
  unfold cntV
  rw [this, if_neg (by omega)]
theorem cntV_64 {v : TV} (h : ∀ i, 0 ≤ i → i < 64 → rowV v i ≠ -1) : cntV v = 64 := by
  have := frst_none (q := fun n => rowV v n == -1) (n := 64) (by omega) (fun i i0 i1 => by simpa using h i i0 i1)
  unfold cntV
  rw [this, if_pos (by omega)]
def S_X1_plan : S0t := fun as μ Q => match as with
  | [(2, x0), (2, x1)] => P_X1_plan x0 x1 μ ∧ ∀ (μ' : Mem) , Q_X1_plan x0 x1 μ μ'  → Q μ' none
  | _ => False
theorem mono_X1_plan : Mono S_X1_plan := by
  intro as μ Q Q' h hS
  unfold S_X1_plan at hS ⊢
  split at hS
  · exact ⟨hS.1, fun μ' q => h _ _ (hS.2 _ q)⟩
  · exact hS.elim
def iX1_plan : Inf := (kX1_plan, fTX1, pTX1, cTX1, lTX1, sTX1, [(45, 0, 1, 1, S_X1_likeliest), (49, 0, 2, 1, S_X1_findsAt)])
theorem ok_X1_plan : infOK iX1_plan mX1_plan RX1 2 45 := ⟨kkX1_plan, fTX1_ok, pTX1_ok _, cTX1_ok, lTX1_ok, sTX1_ok, c_cons ⟨mX1_likeliest, 1, 22, ct_X1_likeliest, mmX1_likeliest, vvX1_likeliest, lkX1_45, ⟨by decide, by decide⟩, ⟨_, _, rfl⟩, by decide, mono_X1_likeliest⟩ (c_cons ⟨mX1_findsAt, 0, 0, ct_X1_findsAt, mmX1_findsAt, vvX1_findsAt, lkX1_49, ⟨by decide, by decide⟩, ⟨_, _, rfl⟩, by decide, mono_X1_findsAt⟩ (c_nil))⟩
theorem mt_X1_plan : mtOK [] RX1 2 45 := mt_nil
abbrev V_X1_plan (R : Mem → Option AV → Prop) (pc : Nat) (lc : List (Nat × AV)) (μ : Mem) : Prop := VM mX1_plan RX1 2 45 R pc lc [] μ
set_option maxRecDepth 20000 in
theorem vc_X1_plan_0 {R : Mem → Option AV → Prop} {t : Int} {μ : Mem} (ht : isT t) (H : V_X1_plan R 2 [(0, kR 180), (1, kR t), (2, kI 0)] μ) : V_X1_plan R 0 [(0, kR 180), (1, kR t)] μ := by
  refine vm_step2 mt_X1_plan ok_X1_plan [(2, [0, 1, 2]), (27, [0, 1, 2]), (34, [0, 1, 2]), (55, [0, 1]), (62, [0, 1]), (67, [0, 1]), (69, [0, 1, 2]), (102, [0, 1, 2, 3, 4]), (119, [0, 1, 2, 3, 4]), (157, [0, 1, 2, 3, 4]), (168, [0, 1, 2, 3]), (178, [0, 1, 2]), (188, [0, 1, 2])] 1000 ?_
  show V_X1_plan R 2 [(0, kR 180), (1, kR t), (2, kI 0)] μ
  exact H
set_option maxRecDepth 20000 in
theorem vc_X1_plan_2 {R : Mem → Option AV → Prop} {a t : Int} {μ : Mem} (ht : isT t) (H : r32 a ∧ r32 (μ t 1) ∧ (((μ t 1) ≤ a) → r32 (μ t 3) ∧ V_X1_plan R 55 [(0, kR 180), (1, kR t)] (updm μ 182 0 ((μ t 3) * 429981696))) ∧ (¬ ((μ t 1) ≤ a) → (0 ≤ a ∧ a < 8) ∧ r32 (μ (t + 3) a) ∧ (0 ≤ a ∧ a < 8) ∧ V_X1_plan R 27 [(0, kR 180), (1, kR t), (2, kI a)] (updm μ 184 a ((μ (t + 3) a) * 429981696)))) : V_X1_plan R 2 [(0, kR 180), (1, kR t), (2, kI a)] μ := by
  refine vm_step2 mt_X1_plan ok_X1_plan [(2, [0, 1, 2]), (27, [0, 1, 2]), (34, [0, 1, 2]), (55, [0, 1]), (62, [0, 1]), (67, [0, 1]), (69, [0, 1, 2]), (102, [0, 1, 2, 3, 4]), (119, [0, 1, 2, 3, 4]), (157, [0, 1, 2, 3, 4]), (168, [0, 1, 2, 3]), (178, [0, 1, 2]), (188, [0, 1, 2])] 1000 ?_
  show isC t 7 ∧ (r32 a ∧ r32 (μ t 1)) ∧ (((μ t 1) ≤ a) → isC 180 1 ∧ isC t 7 ∧ r32 (μ t 3) ∧ inA 182 1 (0 : Int) ∧ V_X1_plan R 55 [(0, kR 180), (1, kR t)] (updm μ 182 0 ((μ t 3) * 429981696))) ∧ (¬ ((μ t 1) ≤ a) → isC 180 1 ∧ isC t 7 ∧ inA (t + 3) 0 a ∧ r32 (μ (t + 3) a) ∧ inA 184 1 a ∧ V_X1_plan R 27 [(0, kR 180), (1, kR t), (2, kI a)] (updm μ 184 a ((μ (t + 3) a) * 429981696)))
  exact ⟨isT_C ht, ⟨⟨H.1, H.2.1⟩, fun hc1 => ⟨c_180, ⟨isT_C ht, ⟨(H.2.2.1 hc1).1, ⟨isArr.in a_182 (by omega) (by omega), (H.2.2.1 hc1).2⟩⟩⟩⟩, fun hc1 => ⟨c_180, ⟨isT_C ht, ⟨isArr.in (T_chance ht) (H.2.2.2 hc1).1.1 (H.2.2.2 hc1).1.2, ⟨(H.2.2.2 hc1).2.1, ⟨isArr.in a_184 (H.2.2.2 hc1).2.2.1.1 (H.2.2.2 hc1).2.2.1.2, (H.2.2.2 hc1).2.2.2⟩⟩⟩⟩⟩⟩⟩
set_option maxRecDepth 20000 in
theorem vc_X1_plan_27 {R : Mem → Option AV → Prop} {a t : Int} {μ : Mem} (ht : isT t) (H : (0 ≤ a ∧ a < 8) ∧ V_X1_plan R 34 [(0, kR 180), (1, kR t), (2, kI a)] (updm μ 185 a 0)) : V_X1_plan R 27 [(0, kR 180), (1, kR t), (2, kI a)] μ := by
  refine vm_step2 mt_X1_plan ok_X1_plan [(2, [0, 1, 2]), (27, [0, 1, 2]), (34, [0, 1, 2]), (55, [0, 1]), (62, [0, 1]), (67, [0, 1]), (69, [0, 1, 2]), (102, [0, 1, 2, 3, 4]), (119, [0, 1, 2, 3, 4]), (157, [0, 1, 2, 3, 4]), (168, [0, 1, 2, 3]), (178, [0, 1, 2]), (188, [0, 1, 2])] 1000 ?_
  show isC 180 1 ∧ inA 185 0 a ∧ V_X1_plan R 34 [(0, kR 180), (1, kR t), (2, kI a)] (updm μ 185 a 0)
  exact ⟨c_180, ⟨isArr.in a_185 H.1.1 H.1.2, H.2⟩⟩
set_option maxRecDepth 20000 in
theorem vc_X1_plan_34 {R : Mem → Option AV → Prop} {a t : Int} {μ : Mem} (ht : isT t) (H : V_X1_plan R 2 [(0, kR 180), (1, kR t), (2, kI (a + 1))] μ) : V_X1_plan R 34 [(0, kR 180), (1, kR t), (2, kI a)] μ := by
  refine vm_step2 mt_X1_plan ok_X1_plan [(2, [0, 1, 2]), (27, [0, 1, 2]), (34, [0, 1, 2]), (55, [0, 1]), (62, [0, 1]), (67, [0, 1]), (69, [0, 1, 2]), (102, [0, 1, 2, 3, 4]), (119, [0, 1, 2, 3, 4]), (157, [0, 1, 2, 3, 4]), (168, [0, 1, 2, 3]), (178, [0, 1, 2]), (188, [0, 1, 2])] 1000 ?_
  show V_X1_plan R 2 [(0, kR 180), (1, kR t), (2, kI (a + 1))] μ
  exact H
set_option maxRecDepth 20000 in
theorem vc_X1_plan_55 {R : Mem → Option AV → Prop} {t : Int} {μ : Mem} (ht : isT t) (H : V_X1_plan R 62 [(0, kR 180), (1, kR t)] (updm μ 183 0 0)) : V_X1_plan R 55 [(0, kR 180), (1, kR t)] μ := by
  refine vm_step2 mt_X1_plan ok_X1_plan [(2, [0, 1, 2]), (27, [0, 1, 2]), (34, [0, 1, 2]), (55, [0, 1]), (62, [0, 1]), (67, [0, 1]), (69, [0, 1, 2]), (102, [0, 1, 2, 3, 4]), (119, [0, 1, 2, 3, 4]), (157, [0, 1, 2, 3, 4]), (168, [0, 1, 2, 3]), (178, [0, 1, 2]), (188, [0, 1, 2])] 1000 ?_
  show isC 180 1 ∧ inA 183 1 (0 : Int) ∧ V_X1_plan R 62 [(0, kR 180), (1, kR t)] (updm μ 183 0 0)
  exact ⟨c_180, ⟨isArr.in a_183 (by omega) (by omega), H⟩⟩
set_option maxRecDepth 20000 in
theorem vc_X1_plan_62 {R : Mem → Option AV → Prop} {t : Int} {μ : Mem} (ht : isT t) (H : V_X1_plan R 67 [(0, kR 180), (1, kR t)] (updm μ 180 5 0)) : V_X1_plan R 62 [(0, kR 180), (1, kR t)] μ := by
  refine vm_step2 mt_X1_plan ok_X1_plan [(2, [0, 1, 2]), (27, [0, 1, 2]), (34, [0, 1, 2]), (55, [0, 1]), (62, [0, 1]), (67, [0, 1]), (69, [0, 1, 2]), (102, [0, 1, 2, 3, 4]), (119, [0, 1, 2, 3, 4]), (157, [0, 1, 2, 3, 4]), (168, [0, 1, 2, 3]), (178, [0, 1, 2]), (188, [0, 1, 2])] 1000 ?_
  show isC 180 1 ∧ 0 = 0 ∧ True ∧ V_X1_plan R 67 [(0, kR 180), (1, kR t)] (updm μ 180 5 0)
  exact ⟨c_180, rfl, trivial, H⟩
set_option maxRecDepth 20000 in
theorem vc_X1_plan_67 {R : Mem → Option AV → Prop} {t : Int} {μ : Mem} (ht : isT t) (H : V_X1_plan R 69 [(0, kR 180), (1, kR t), (2, kI 0)] μ) : V_X1_plan R 67 [(0, kR 180), (1, kR t)] μ := by
  refine vm_step2 mt_X1_plan ok_X1_plan [(2, [0, 1, 2]), (27, [0, 1, 2]), (34, [0, 1, 2]), (55, [0, 1]), (62, [0, 1]), (67, [0, 1]), (69, [0, 1, 2]), (102, [0, 1, 2, 3, 4]), (119, [0, 1, 2, 3, 4]), (157, [0, 1, 2, 3, 4]), (168, [0, 1, 2, 3]), (178, [0, 1, 2]), (188, [0, 1, 2])] 1000 ?_
  show V_X1_plan R 69 [(0, kR 180), (1, kR t), (2, kI 0)] μ
  exact H
set_option maxRecDepth 20000 in
theorem vc_X1_plan_69 {R : Mem → Option AV → Prop} {a t : Int} {μ : Mem} (ht : isT t) (H : r32 a ∧ (((64 : Int) ≤ a) → R μ none) ∧ (¬ ((64 : Int) ≤ a) → P_X1_likeliest 180 t μ ∧ r32 (F_X1_likeliest 180 t μ) ∧ ((¬ (F_X1_likeliest 180 t μ) = (-1 : Int)) → P_X1_findsAt 180 t (F_X1_likeliest 180 t μ) μ ∧ (0 ≤ a ∧ a < 64) ∧ V_X1_plan R 102 [(0, kR 180), (1, kR t), (2, kI a), (3, kI (F_X1_likeliest 180 t μ)), (4, kL (F_X1_findsAt 180 t (F_X1_likeliest 180 t μ) μ))] (updm μ 181 a (F_X1_likeliest 180 t μ))) ∧ (¬ (¬ (F_X1_likeliest 180 t μ) = (-1 : Int)) → R μ none))) : V_X1_plan R 69 [(0, kR 180), (1, kR t), (2, kI a)] μ := by
  refine vm_step2 mt_X1_plan ok_X1_plan [(2, [0, 1, 2]), (27, [0, 1, 2]), (34, [0, 1, 2]), (55, [0, 1]), (62, [0, 1]), (67, [0, 1]), (69, [0, 1, 2]), (102, [0, 1, 2, 3, 4]), (119, [0, 1, 2, 3, 4]), (157, [0, 1, 2, 3, 4]), (168, [0, 1, 2, 3]), (178, [0, 1, 2]), (188, [0, 1, 2])] 1000 ?_
  show (r32 a ∧ r32 (64 : Int)) ∧ (((64 : Int) ≤ a) → R μ none) ∧ (¬ ((64 : Int) ≤ a) → isC 180 1 ∧ P_X1_likeliest 180 t μ ∧ (r32 (F_X1_likeliest 180 t μ) ∧ r32 (-1 : Int)) ∧ ((¬ (F_X1_likeliest 180 t μ) = (-1 : Int)) → isC 180 1 ∧ P_X1_findsAt 180 t (F_X1_likeliest 180 t μ) μ ∧ isC 180 1 ∧ inA 181 0 a ∧ V_X1_plan R 102 [(0, kR 180), (1, kR t), (2, kI a), (3, kI (F_X1_likeliest 180 t μ)), (4, kL (F_X1_findsAt 180 t (F_X1_likeliest 180 t μ) μ))] (updm μ 181 a (F_X1_likeliest 180 t μ))) ∧ (¬ (¬ (F_X1_likeliest 180 t μ) = (-1 : Int)) → R μ none))
  exact ⟨⟨H.1, by unfold r32; omega⟩, fun hc3 => (H.2.1 hc3), fun hc3 => ⟨c_180, (H.2.2 hc3).1, ⟨⟨(H.2.2 hc3).2.1, by unfold r32; omega⟩, fun hc2 => ⟨c_180, ((H.2.2 hc3).2.2.1 hc2).1, ⟨c_180, ⟨isArr.in a_181 ((H.2.2 hc3).2.2.1 hc2).2.1.1 ((H.2.2 hc3).2.2.1 hc2).2.1.2, ((H.2.2 hc3).2.2.1 hc2).2.2⟩⟩⟩, fun hc2 => ((H.2.2 hc3).2.2.2 hc2)⟩⟩⟩
set_option maxRecDepth 20000 in
theorem vc_X1_plan_102 {R : Mem → Option AV → Prop} {a b v4 t : Int} {μ : Mem} (ht : isT t) (H : (0 ≤ a ∧ a < 65) ∧ (0 ≤ (a + 1) ∧ (a + 1) < 65) ∧ V_X1_plan R 119 [(0, kR 180), (1, kR t), (2, kI a), (3, kI b), (4, kL v4)] (updm μ 182 (a + 1) ((μ 182 a) - v4))) : V_X1_plan R 102 [(0, kR 180), (1, kR t), (2, kI a), (3, kI b), (4, kL v4)] μ := by
  refine vm_step2 mt_X1_plan ok_X1_plan [(2, [0, 1, 2]), (27, [0, 1, 2]), (34, [0, 1, 2]), (55, [0, 1]), (62, [0, 1]), (67, [0, 1]), (69, [0, 1, 2]), (102, [0, 1, 2, 3, 4]), (119, [0, 1, 2, 3, 4]), (157, [0, 1, 2, 3, 4]), (168, [0, 1, 2, 3]), (178, [0, 1, 2]), (188, [0, 1, 2])] 1000 ?_
  show isC 180 1 ∧ isC 180 1 ∧ inA 182 1 a ∧ inA 182 1 (a + 1) ∧ V_X1_plan R 119 [(0, kR 180), (1, kR t), (2, kI a), (3, kI b), (4, kL v4)] (updm μ 182 (a + 1) ((μ 182 a) - v4))
  exact ⟨c_180, ⟨c_180, ⟨isArr.in a_182 H.1.1 H.1.2, ⟨isArr.in a_182 H.2.1.1 H.2.1.2, H.2.2⟩⟩⟩⟩
set_option maxRecDepth 20000 in
theorem vc_X1_plan_119 {R : Mem → Option AV → Prop} {a b v4 t : Int} {μ : Mem} (ht : isT t) (H : (0 ≤ a ∧ a < 65) ∧ r32 (μ t 5) ∧ (0 ≤ b ∧ b < 8) ∧ r32 (μ (t + 5) b) ∧ (0 ≤ a ∧ a < 65) ∧ (0 ≤ (a + 1) ∧ (a + 1) < 65) ∧ V_X1_plan R 157 [(0, kR 180), (1, kR t), (2, kI a), (3, kI b), (4, kL v4)] (updm μ 183 (a + 1) (((μ 183 a) + ((μ t 5) * v4)) - ((μ (t + 5) b) * (μ 182 a))))) : V_X1_plan R 119 [(0, kR 180), (1, kR t), (2, kI a), (3, kI b), (4, kL v4)] μ := by
  refine vm_step2 mt_X1_plan ok_X1_plan [(2, [0, 1, 2]), (27, [0, 1, 2]), (34, [0, 1, 2]), (55, [0, 1]), (62, [0, 1]), (67, [0, 1]), (69, [0, 1, 2]), (102, [0, 1, 2, 3, 4]), (119, [0, 1, 2, 3, 4]), (157, [0, 1, 2, 3, 4]), (168, [0, 1, 2, 3]), (178, [0, 1, 2]), (188, [0, 1, 2])] 1000 ?_
  show isC 180 1 ∧ isC 180 1 ∧ inA 183 1 a ∧ isC t 7 ∧ r32 (μ t 5) ∧ isC t 7 ∧ inA (t + 5) 0 b ∧ r32 (μ (t + 5) b) ∧ isC 180 1 ∧ inA 182 1 a ∧ inA 183 1 (a + 1) ∧ V_X1_plan R 157 [(0, kR 180), (1, kR t), (2, kI a), (3, kI b), (4, kL v4)] (updm μ 183 (a + 1) (((μ 183 a) + ((μ t 5) * v4)) - ((μ (t + 5) b) * (μ 182 a))))
  exact ⟨c_180, ⟨c_180, ⟨isArr.in a_183 H.1.1 H.1.2, ⟨isT_C ht, ⟨H.2.1, ⟨isT_C ht, ⟨isArr.in (T_dig ht) H.2.2.1.1 H.2.2.1.2, ⟨H.2.2.2.1, ⟨c_180, ⟨isArr.in a_182 H.2.2.2.2.1.1 H.2.2.2.2.1.2, ⟨isArr.in a_183 H.2.2.2.2.2.1.1 H.2.2.2.2.2.1.2, H.2.2.2.2.2.2⟩⟩⟩⟩⟩⟩⟩⟩⟩⟩⟩
set_option maxRecDepth 20000 in
theorem vc_X1_plan_157 {R : Mem → Option AV → Prop} {a b v4 t : Int} {μ : Mem} (ht : isT t) (H : (0 ≤ b ∧ b < 8) ∧ (0 ≤ b ∧ b < 8) ∧ V_X1_plan R 168 [(0, kR 180), (1, kR t), (2, kI a), (3, kI b)] (updm μ 184 b ((μ 184 b) - v4))) : V_X1_plan R 157 [(0, kR 180), (1, kR t), (2, kI a), (3, kI b), (4, kL v4)] μ := by
  refine vm_step2 mt_X1_plan ok_X1_plan [(2, [0, 1, 2]), (27, [0, 1, 2]), (34, [0, 1, 2]), (55, [0, 1]), (62, [0, 1]), (67, [0, 1]), (69, [0, 1, 2]), (102, [0, 1, 2, 3, 4]), (119, [0, 1, 2, 3, 4]), (157, [0, 1, 2, 3, 4]), (168, [0, 1, 2, 3]), (178, [0, 1, 2]), (188, [0, 1, 2])] 1000 ?_
  show isC 180 1 ∧ inA 184 1 b ∧ inA 184 1 b ∧ V_X1_plan R 168 [(0, kR 180), (1, kR t), (2, kI a), (3, kI b)] (updm μ 184 b ((μ 184 b) - v4))
  exact ⟨c_180, ⟨isArr.in a_184 H.1.1 H.1.2, ⟨isArr.in a_184 H.2.1.1 H.2.1.2, H.2.2⟩⟩⟩
set_option maxRecDepth 20000 in
theorem vc_X1_plan_168 {R : Mem → Option AV → Prop} {a b t : Int} {μ : Mem} (ht : isT t) (H : (0 ≤ b ∧ b < 8) ∧ (0 ≤ b ∧ b < 8) ∧ V_X1_plan R 178 [(0, kR 180), (1, kR t), (2, kI a)] (updm μ 185 b ((μ 185 b) + 1))) : V_X1_plan R 168 [(0, kR 180), (1, kR t), (2, kI a), (3, kI b)] μ := by
  refine vm_step2 mt_X1_plan ok_X1_plan [(2, [0, 1, 2]), (27, [0, 1, 2]), (34, [0, 1, 2]), (55, [0, 1]), (62, [0, 1]), (67, [0, 1]), (69, [0, 1, 2]), (102, [0, 1, 2, 3, 4]), (119, [0, 1, 2, 3, 4]), (157, [0, 1, 2, 3, 4]), (168, [0, 1, 2, 3]), (178, [0, 1, 2]), (188, [0, 1, 2])] 1000 ?_
  show isC 180 1 ∧ inA 185 0 b ∧ inA 185 0 b ∧ V_X1_plan R 178 [(0, kR 180), (1, kR t), (2, kI a)] (updm μ 185 b ((μ 185 b) + 1))
  exact ⟨c_180, ⟨isArr.in a_185 H.1.1 H.1.2, ⟨isArr.in a_185 H.2.1.1 H.2.1.2, H.2.2⟩⟩⟩
set_option maxRecDepth 20000 in
theorem vc_X1_plan_178 {R : Mem → Option AV → Prop} {a t : Int} {μ : Mem} (ht : isT t) (H : V_X1_plan R 188 [(0, kR 180), (1, kR t), (2, kI a)] (updm μ 180 5 ((μ 180 5) + 1))) : V_X1_plan R 178 [(0, kR 180), (1, kR t), (2, kI a)] μ := by
  refine vm_step2 mt_X1_plan ok_X1_plan [(2, [0, 1, 2]), (27, [0, 1, 2]), (34, [0, 1, 2]), (55, [0, 1]), (62, [0, 1]), (67, [0, 1]), (69, [0, 1, 2]), (102, [0, 1, 2, 3, 4]), (119, [0, 1, 2, 3, 4]), (157, [0, 1, 2, 3, 4]), (168, [0, 1, 2, 3]), (178, [0, 1, 2]), (188, [0, 1, 2])] 1000 ?_
  show isC 180 1 ∧ isC 180 1 ∧ 0 = 0 ∧ True ∧ V_X1_plan R 188 [(0, kR 180), (1, kR t), (2, kI a)] (updm μ 180 5 ((μ 180 5) + 1))
  exact ⟨c_180, ⟨c_180, rfl, trivial, H⟩⟩
set_option maxRecDepth 20000 in
theorem vc_X1_plan_188 {R : Mem → Option AV → Prop} {a t : Int} {μ : Mem} (ht : isT t) (H : V_X1_plan R 69 [(0, kR 180), (1, kR t), (2, kI (a + 1))] μ) : V_X1_plan R 188 [(0, kR 180), (1, kR t), (2, kI a)] μ := by
  refine vm_step2 mt_X1_plan ok_X1_plan [(2, [0, 1, 2]), (27, [0, 1, 2]), (34, [0, 1, 2]), (55, [0, 1]), (62, [0, 1]), (67, [0, 1]), (69, [0, 1, 2]), (102, [0, 1, 2, 3, 4]), (119, [0, 1, 2, 3, 4]), (157, [0, 1, 2, 3, 4]), (168, [0, 1, 2, 3]), (178, [0, 1, 2]), (188, [0, 1, 2])] 1000 ?_
  show V_X1_plan R 69 [(0, kR 180), (1, kR t), (2, kI (a + 1))] μ
  exact H
theorem body_X1_plan {o t : Int} {μ : Mem} {R : Mem → Option AV → Prop} (h : P_X1_plan o t μ) (hR : ∀ μ' : Mem, Q_X1_plan o t μ μ' → R μ' none) : V_X1_plan R 0 [(0, kR o), (1, kR t)] μ := by
  obtain ⟨rfl, ⟨ht, ok⟩, h3⟩ := h
  have hp : 2 ≤ μ t 1 ∧ μ t 1 ≤ 8 := ok.1
  have hT := isT_hi ht
  have hp0 : 0 ≤ tv μ t 0 0 := by show 0 ≤ μ t 1; omega
  refine vc_X1_plan_0 ht ?_
  -- the looks themselves
  have main : ∀ n : Int, 0 ≤ n → n ≤ 64 → ∀ m : Mem, (∀ i, 0 ≤ i → i < n → rowV (tv μ t) i ≠ -1) → LookR m (tv μ t) n → (∀ a : Int, 0 ≤ a → a < μ t 1 → m 185 a = stV (tv μ t) n a ∧ m 184 a = partV (tv μ t) a (stV (tv μ t) n a)) → Same μ m 180 185 → V_X1_plan R 69 [(0, kR 180), (1, kR t), (2, kI n)] m := by
    refine up_ind (P := fun n => ∀ m : Mem, (∀ i, 0 ≤ i → i < n → rowV (tv μ t) i ≠ -1) → LookR m (tv μ t) n → (∀ a : Int, 0 ≤ a → a < μ t 1 → m 185 a = stV (tv μ t) n a ∧ m 184 a = partV (tv μ t) a (stV (tv μ t) n a)) → Same μ m 180 185 → V_X1_plan R 69 [(0, kR 180), (1, kR t), (2, kI n)] m) ?_ ?_
    · intro n n0 i1 ih m hno hl hd hs
      have etv : tv m t = tv μ t := tv_frame (fun z z0 z1 => hs z (by omega))
      have em1 : m t 1 = μ t 1 := by rw [hs t (by omega)]
      have hst := stV_bd (v := tv μ t) hp0 n0
      have hlm : lookM m t := by
        intro a a0 a1
        rw [etv] at a1 ⊢
        obtain ⟨x1, x2⟩ := hd a a0 a1
        rw [x1]
        exact ⟨hst a, x2⟩
      have ech : F_X1_likeliest 180 t m = rowV (tv μ t) n := by
        unfold F_X1_likeliest rowV
        rw [etv]
        exact chooseV_cong hp0 (fun a a0 a1 => (hd a a0 a1).1)
      refine vc_X1_plan_69 ht ⟨rr (by omega), fun c => absurd c (by omega), fun _ => ⟨⟨rfl, ⟨ht, by rw [etv]; exact ok⟩, hlm⟩, ?_⟩⟩
      rw [ech]
      have hr := rowV_ok (v := tv μ t) hp0 n
      refine ⟨rr (by have : tv μ t 0 0 = μ t 1 := rfl; omega), fun c => ?_, fun c => hR m ⟨?_, hs⟩⟩
      · rcases hr with hr | ⟨hr1, hr2, hr3⟩
        · exact absurd hr c
        · obtain ⟨x1, x2⟩ := hd (rowV (tv μ t) n) hr1.1 hr1.2
          obtain ⟨l1, l2, l3⟩ := hl
          have hs0 := hst (rowV (tv μ t) n)
          have hr8 : rowV (tv μ t) n < 8 := by have : tv μ t 0 0 = μ t 1 := rfl; omega
          have hF : F_X1_findsAt 180 t (rowV (tv μ t) n) m = findV (tv μ t) (rowV (tv μ t) n) (stV (tv μ t) n (rowV (tv μ t) n)) := by
            unfold F_X1_findsAt
            rw [etv, x1]
          have eL := leftV_s ok n0 c
          have eG := gainV_s (v := tv μ t) n0
          have eS : stV (tv μ t) (n + 1) = upd1 (stV (tv μ t) n) (rowV (tv μ t) n) (stV (tv μ t) n (rowV (tv μ t) n) + 1) := by
            rw [stV_s n0]; exact if_neg c
          have hpn := part_next (v := tv μ t) (a := rowV (tv μ t) n) hs0.1 (show stV (tv μ t) n (rowV (tv μ t) n) ≤ 7 by omega)
          have e6r := e6 μ t hr1.1 hr8
          have l3n := l3 n n0 (Int.le_refl n)
          have hprize : m t 5 = tv μ t 2 0 := by rw [hs t (by omega)]; rfl
          have hdig : m (t + 5) (rowV (tv μ t) n) = tv μ t 6 (rowV (tv μ t) n) := by rw [hs (t + 5) (by omega)]; exact e6r
          have hcr := ok.2.2.2.1 (rowV (tv μ t) n) hr1.1 hr8
          refine ⟨⟨rfl, ⟨ht, by rw [etv]; exact ok⟩, ⟨hr1.1, hr8⟩, by rw [x1]; omega, by rw [etv, x1]; exact x2⟩, ⟨n0, i1⟩, ?_⟩
          rw [hF]
          generalize findV (tv μ t) (rowV (tv μ t) n) (stV (tv μ t) n (rowV (tv μ t) n)) = f at eL eG hpn ⊢
          generalize hrr : rowV (tv μ t) n = r at *
          obtain ⟨m1, q1⟩ : ∃ x, x = updm m 181 n r := ⟨_, rfl⟩
          rw [← q1]
          have y1 : m1 182 n = m 182 n := by rw [q1, ru_ne (by omega)]
          refine vc_X1_plan_102 ht ⟨by omega, by omega, ?_⟩
          obtain ⟨m2, q2⟩ : ∃ x, x = updm m1 182 (n + 1) (m1 182 n - f) := ⟨_, rfl⟩
          rw [← q2]
          have y2 : m2 t 5 = tv μ t 2 0 := by rw [q2, ru_ne (by omega), q1, ru_ne (by omega)]; exact hprize
          have y3 : m2 (t + 5) r = tv μ t 6 r := by rw [q2, ru_ne (by omega), q1, ru_ne (by omega)]; exact hdig
          have y4 : m2 183 n = m 183 n := by rw [q2, ru_ne (by omega), q1, ru_ne (by omega)]
          have y5 : m2 182 n = m 182 n := by rw [q2, ru_eq, r1_ne (by omega), y1]
          refine vc_X1_plan_119 ht ?_
          rw [y2, y3, y4, y5]
          refine ⟨by omega, rr (by have := ok.2.1; omega), ⟨hr1.1, hr8⟩, rr (by omega), by omega, by omega, ?_⟩
          obtain ⟨m3, q3⟩ : ∃ x, x = updm m2 183 (n + 1) ((m 183 n + tv μ t 2 0 * f) - tv μ t 6 r * m 182 n) := ⟨_, rfl⟩
          rw [← q3]
          refine vc_X1_plan_157 ht ⟨⟨hr1.1, hr8⟩, ⟨hr1.1, hr8⟩, ?_⟩
          obtain ⟨m4, q4⟩ : ∃ x, x = updm m3 184 r (m3 184 r - f) := ⟨_, rfl⟩
          rw [← q4]
          refine vc_X1_plan_168 ht ⟨⟨hr1.1, hr8⟩, ⟨hr1.1, hr8⟩, ?_⟩
          obtain ⟨m5, q5⟩ : ∃ x, x = updm m4 185 r (m4 185 r + 1) := ⟨_, rfl⟩
          rw [← q5]
          refine vc_X1_plan_178 ht ?_
          obtain ⟨m6, q6⟩ : ∃ x, x = updm m5 180 5 (m5 180 5 + 1) := ⟨_, rfl⟩
          rw [← q6]
          refine vc_X1_plan_188 ht ?_
          have z0 : ∀ z : Int, z < 180 ∨ 185 < z → m6 z = m z := fun z hz => by rw [q6, ru_ne (by omega), q5, ru_ne (by omega), q4, ru_ne (by omega), q3, ru_ne (by omega), q2, ru_ne (by omega), q1, ru_ne (by omega)]
          have z180 : m6 180 5 = m 180 5 + 1 := by rw [q6, ru_eq, r1_eq, q5, ru_ne (by omega), q4, ru_ne (by omega), q3, ru_ne (by omega), q2, ru_ne (by omega), q1, ru_ne (by omega)]
          have z181 : m6 181 = upd1 (m 181) n r := by rw [q6, ru_ne (by omega), q5, ru_ne (by omega), q4, ru_ne (by omega), q3, ru_ne (by omega), q2, ru_ne (by omega), q1, ru_eq]
          have z182 : m6 182 = upd1 (m 182) (n + 1) (m 182 n - f) := by rw [q6, ru_ne (by omega), q5, ru_ne (by omega), q4, ru_ne (by omega), q3, ru_ne (by omega), q2, ru_eq, y1, q1, ru_ne (by omega)]
          have z183 : m6 183 = upd1 (m 183) (n + 1) ((m 183 n + tv μ t 2 0 * f) - tv μ t 6 r * m 182 n) := by rw [q6, ru_ne (by omega), q5, ru_ne (by omega), q4, ru_ne (by omega), q3, ru_eq, q2, ru_ne (by omega), q1, ru_ne (by omega)]
          have z184 : m6 184 = upd1 (m 184) r (m 184 r - f) := by rw [q6, ru_ne (by omega), q5, ru_ne (by omega), q4, ru_eq, q3, ru_ne (by omega), q2, ru_ne (by omega), q1, ru_ne (by omega)]
          have z185 : m6 185 = upd1 (m 185) r (m 185 r + 1) := by rw [q6, ru_ne (by omega), q5, ru_eq, q4, ru_ne (by omega), q3, ru_ne (by omega), q2, ru_ne (by omega), q1, ru_ne (by omega)]
          refine ih m6 (fun i i0' i1' => ?_) ⟨by rw [z180, l1], fun i i0' i1' => ?_, fun i i0' i1' => ?_⟩ (fun a a0 a1 => ?_) (fun z hz => by rw [z0 z hz]; exact hs z hz)
          · by_cases hi : i = n
            · rw [hi, hrr]; exact c
            · exact hno i i0' (by omega)
          · rw [z181]
            by_cases hi : i = n
            · rw [hi, r1_eq, hrr]
            · rw [r1_ne hi]; exact l2 i i0' (by omega)
          · rw [z182, z183]
            by_cases hi : i = n + 1
            · rw [hi, r1_eq, r1_eq, eL, eG, l3n.1, l3n.2]
              exact ⟨rfl, rfl⟩
            · rw [r1_ne hi, r1_ne hi]; exact l3 i i0' (by omega)
          · rw [z184, z185, eS]
            by_cases ha : a = r
            · rw [ha, r1_eq, r1_eq, r1_eq, x1, x2]
              exact ⟨rfl, hpn⟩
            · rw [r1_ne ha, r1_ne ha, r1_ne ha]; exact hd a a0 a1
      · rw [cntV_at n0 i1 hno (by omega)]
        exact hl
    · intro m hno hl hd hs
      refine vc_X1_plan_69 ht ⟨rr (by omega), fun _ => hR m ⟨?_, hs⟩, fun c => absurd (Int.le_refl _) c⟩
      rw [cntV_64 hno]
      exact hl
  -- what is laid before
  have pre : ∀ a : Int, 0 ≤ a → a ≤ μ t 1 → ∀ m : Mem, (∀ a' : Int, 0 ≤ a' → a' < a → m 185 a' = 0 ∧ m 184 a' = tv μ t 4 a' * 429981696) → Same μ m 180 185 → V_X1_plan R 2 [(0, kR 180), (1, kR t), (2, kI a)] m := by
    refine up_ind (P := fun a => ∀ m : Mem, (∀ a' : Int, 0 ≤ a' → a' < a → m 185 a' = 0 ∧ m 184 a' = tv μ t 4 a' * 429981696) → Same μ m 180 185 → V_X1_plan R 2 [(0, kR 180), (1, kR t), (2, kI a)] m) ?_ ?_
    · intro a a0 a1 ih m hd hs
      have em1 : m t 1 = μ t 1 := by rw [hs t (by omega)]
      have em4 : m (t + 3) a = tv μ t 4 a := by rw [hs (t + 3) (by omega)]; exact e4 μ t a0 (by omega)
      have hc := (ok.2.2.2.1 a a0 (by omega)).1
      refine vc_X1_plan_2 ht ?_
      rw [em1, em4]
      refine ⟨rr (by omega), rr (by omega), fun c => absurd c (by omega), fun _ => ⟨by omega, rr (by omega), by omega, vc_X1_plan_27 ht ⟨by omega, vc_X1_plan_34 ht ?_⟩⟩⟩
      refine ih _ (fun a' a0' a1' => ?_) (fun z hz => by rw [ru_ne (by omega), ru_ne (by omega)]; exact hs z hz)
      rw [ru_eq, ru_ne (show (184 : Int) ≠ 185 by omega), ru_ne (show (185 : Int) ≠ 184 by omega), ru_eq]
      by_cases ha : a' = a
      · rw [ha, r1_eq, r1_eq]; exact ⟨rfl, rfl⟩
      · rw [r1_ne ha, r1_ne ha]; exact hd a' a0' (by omega)
    · intro m hd hs
      have em1 : m t 1 = μ t 1 := by rw [hs t (by omega)]
      have em3 : m t 3 = sm (tv μ t 4) (μ t 1) := by rw [hs t (by omega)]; exact h3
      have hb := sm_bd (f := tv μ t 4) (n := μ t 1) (c := 0) (d := 99) (fun i i0 i1 => (ok.2.2.2.1 i i0 (by omega)).1) (by omega)
      refine vc_X1_plan_2 ht ?_
      rw [em1, em3]
      refine ⟨rr (by omega), rr (by omega), fun _ => ⟨rr (by omega), vc_X1_plan_55 ht (vc_X1_plan_62 ht (vc_X1_plan_67 ht ?_))⟩, fun c => absurd (Int.le_refl _) c⟩
      have h12 : (12 : Int) ^ 8 = 429981696 := by decide +kernel
      refine main 0 (by omega) (by omega) _ (fun i a b => absurd a (by omega)) ⟨?_, fun i a b => absurd a (by omega), fun i i0 i1 => ?_⟩ (fun a a0 a1 => ?_) (fun z hz => ?_)
      · rw [ru_eq, r1_eq]
      · have hi : i = 0 := by omega
        rw [hi, ru_ne (show (182 : Int) ≠ 180 by omega), ru_ne (show (182 : Int) ≠ 183 by omega), ru_eq, r1_eq, ru_ne (show (183 : Int) ≠ 180 by omega), ru_eq, r1_eq, leftV_0 hp0]
        exact ⟨rfl, rfl⟩
      · rw [ru_ne (show (185 : Int) ≠ 180 by omega), ru_ne (show (185 : Int) ≠ 183 by omega), ru_ne (show (185 : Int) ≠ 182 by omega), ru_ne (show (184 : Int) ≠ 180 by omega), ru_ne (show (184 : Int) ≠ 183 by omega), ru_ne (show (184 : Int) ≠ 182 by omega)]
        obtain ⟨d1, d2⟩ := hd a a0 a1
        refine ⟨d1, d2.trans ?_⟩
        show _ = tv μ t 4 a * ((12 - tv μ t 5 a) ^ (0 : Int).toNat * 12 ^ (8 - 0 : Int).toNat)
        have e1 : (0 : Int).toNat = 0 := rfl
        have e2 : (8 - 0 : Int).toNat = 8 := rfl
        rw [e1, e2, Int.pow_zero, Int.one_mul, h12]
      · rw [ru_ne (by omega), ru_ne (by omega), ru_ne (by omega)]; exact hs z hz
  exact pre 0 (by omega) (by omega) μ (fun a' a b => absurd a (by omega)) (fun _ _ => rfl)
theorem ct_X1_plan : Ct mX1_plan 2 45 0 0 (nrmS S_X1_plan) := by
  refine ct_vm (own := RX1) (by decide +kernel) rfl ?_ ?_
  · intro as μ Q hS
    unfold S_X1_plan at hS
    split at hS
    · exact Nat.le_of_ble_eq_true rfl
    · exact hS.elim
  · intro as μ R hS
    unfold S_X1_plan at hS
    split at hS
    · exact body_X1_plan hS.1 hS.2
    · exact hS.elim
