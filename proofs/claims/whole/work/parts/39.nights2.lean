theorem night_congr {v : TV} {f g : Int → Int} (h : ∀ b : Int, 0 ≤ b → b < v 0 0 → f b = g b) (a : Int) : nightV v f a = nightV v g a := sm_congr fun b b0 b1 => by rw [h b b0 b1]
/-- a look found nothing: 12 parts or what the dog leaves of 12 -/
def dayV (v : TV) (x : Int) (f : Int → Int) (a : Int) : Int := f a * (if a = x then 12 - v 5 a else 12)
def diaS (v : TV) (f : Int → Int) (d : Int) : Int → Int := dayV v (v 13 d) (if d ≤ 0 then f else nightV v f)
def diaV (v : TV) (n : Int) : Int → Int := fold (diaS v) (v 4) n
theorem diaV_s {v : TV} {n : Int} (h : 0 ≤ n) : diaV v (n + 1) = diaS v (diaV v n) n := fold_s h
def P_X2_readDiary (o t : Int) (μ : Mem) : Prop := o = 186 ∧ TB μ t ∧ calm (tv μ t)
def Q_X2_readDiary (_ t : Int) (μ μ' : Mem) : Prop := (∀ a : Int, 0 ≤ a → a < tv μ t 0 0 → μ' 193 a = diaV (tv μ t) (tv μ t 12 0) a) ∧ ∀ z : Int, z ≠ 187 → z ≠ 193 → z ≠ 194 → μ' z = μ z
theorem e13 (μ : Mem) (t : Int) {d : Int} (d0 : 0 ≤ d) (d1 : d < tv μ t 12 0) : μ (t + 9) d = tv μ t 13 d := (clip_in (f := μ (t + 9)) d0 d1).symm
def S_X2_readDiary : S0t := fun as μ Q => match as with
  | [(2, x0), (2, x1)] => P_X2_readDiary x0 x1 μ ∧ ∀ (μ' : Mem) , Q_X2_readDiary x0 x1 μ μ'  → Q μ' none
  | _ => False
theorem mono_X2_readDiary : Mono S_X2_readDiary := by
  intro as μ Q Q' h hS
  unfold S_X2_readDiary at hS ⊢
  split at hS
  · exact ⟨hS.1, fun μ' q => h _ _ (hS.2 _ q)⟩
  · exact hS.elim
def iX2_readDiary : Inf := (kX2_readDiary, fTX2, pTX2, cTX2, lTX2, sTX2, [(67, 0, 1, 2, S_X2_fillMoves), (107, 0, 1, 2, S_X2_passNight)])
theorem ok_X2_readDiary : infOK iX2_readDiary mX2_readDiary RX2 3 83 := ⟨kkX2_readDiary, fTX2_ok, pTX2_ok _, cTX2_ok, lTX2_ok, sTX2_ok, c_cons ⟨mX2_fillMoves, 2, 45, ct_X2_fillMoves, mmX2_fillMoves, vvX2_fillMoves, lkX2_67, ⟨by decide, by decide⟩, ⟨_, _, rfl⟩, by decide, mono_X2_fillMoves⟩ (c_cons ⟨mX2_passNight, 1, 60, ct_X2_passNight, mmX2_passNight, vvX2_passNight, lkX2_107, ⟨by decide, by decide⟩, ⟨_, _, rfl⟩, by decide, mono_X2_passNight⟩ (c_nil))⟩
theorem mt_X2_readDiary : mtOK [] RX2 3 83 := mt_nil
abbrev V_X2_readDiary (R : Mem → Option AV → Prop) (pc : Nat) (lc : List (Nat × AV)) (μ : Mem) : Prop := VM mX2_readDiary RX2 3 83 R pc lc [] μ
set_option maxRecDepth 20000 in
theorem vc_X2_readDiary_0 {R : Mem → Option AV → Prop} {t : Int} {μ : Mem} (ht : isT t) (H : P_X2_fillMoves 186 t μ ∧ (∀ (μ1 : Mem), Q_X2_fillMoves 186 t μ μ1 → V_X2_readDiary R 7 [(0, kR 186), (1, kR t), (2, kI 0)] μ1)) : V_X2_readDiary R 0 [(0, kR 186), (1, kR t)] μ := by
  refine vm_step2 mt_X2_readDiary ok_X2_readDiary [(7, [0, 1, 2]), (36, [0, 1, 2]), (61, [0, 1, 2, 3])] 1000 ?_
  show isC 186 2 ∧ P_X2_fillMoves 186 t μ ∧ (∀ (μ1 : Mem), Q_X2_fillMoves 186 t μ μ1 → V_X2_readDiary R 7 [(0, kR 186), (1, kR t), (2, kI 0)] μ1)
  exact ⟨c_186, H.1, fun μ1 hq3 => (H.2 μ1 hq3)⟩
set_option maxRecDepth 20000 in
theorem vc_X2_readDiary_7 {R : Mem → Option AV → Prop} {d t : Int} {μ : Mem} (ht : isT t) (H : r32 d ∧ r32 (μ t 1) ∧ (((μ t 1) ≤ d) → V_X2_readDiary R 36 [(0, kR 186), (1, kR t), (2, kI 0)] μ) ∧ (¬ ((μ t 1) ≤ d) → (0 ≤ d ∧ d < 8) ∧ r32 (μ (t + 3) d) ∧ (0 ≤ d ∧ d < 8) ∧ V_X2_readDiary R 7 [(0, kR 186), (1, kR t), (2, kI (d + 1))] (updm μ 193 d (μ (t + 3) d)))) : V_X2_readDiary R 7 [(0, kR 186), (1, kR t), (2, kI d)] μ := by
  refine vm_step2 mt_X2_readDiary ok_X2_readDiary [(7, [0, 1, 2]), (36, [0, 1, 2]), (61, [0, 1, 2, 3])] 1000 ?_
  show isC t 7 ∧ (r32 d ∧ r32 (μ t 1)) ∧ (((μ t 1) ≤ d) → V_X2_readDiary R 36 [(0, kR 186), (1, kR t), (2, kI 0)] μ) ∧ (¬ ((μ t 1) ≤ d) → isC 186 2 ∧ isC t 7 ∧ inA (t + 3) 0 d ∧ r32 (μ (t + 3) d) ∧ inA 193 1 d ∧ V_X2_readDiary R 7 [(0, kR 186), (1, kR t), (2, kI (d + 1))] (updm μ 193 d (μ (t + 3) d)))
  exact ⟨isT_C ht, ⟨⟨H.1, H.2.1⟩, fun hc4 => (H.2.2.1 hc4), fun hc4 => ⟨c_186, ⟨isT_C ht, ⟨isArr.in (T_chance ht) (H.2.2.2 hc4).1.1 (H.2.2.2 hc4).1.2, ⟨(H.2.2.2 hc4).2.1, ⟨isArr.in a_193 (H.2.2.2 hc4).2.2.1.1 (H.2.2.2 hc4).2.2.1.2, (H.2.2.2 hc4).2.2.2⟩⟩⟩⟩⟩⟩⟩
set_option maxRecDepth 20000 in
theorem vc_X2_readDiary_36 {R : Mem → Option AV → Prop} {d t : Int} {μ : Mem} (ht : isT t) (H : r32 d ∧ r32 (μ t 16) ∧ (((μ t 16) ≤ d) → R μ none) ∧ (¬ ((μ t 16) ≤ d) → r32 d ∧ (((7 : Int) ≤ d) → R μ none) ∧ (¬ ((7 : Int) ≤ d) → r32 d ∧ ((d ≤ 0) → V_X2_readDiary R 61 [(0, kR 186), (1, kR t), (2, kI d), (3, kI 0)] μ) ∧ (¬ (d ≤ 0) → P_X2_passNight 186 t μ ∧ (∀ (μ5 : Mem), Q_X2_passNight 186 t μ μ5 → V_X2_readDiary R 61 [(0, kR 186), (1, kR t), (2, kI d), (3, kI 0)] μ5))))) : V_X2_readDiary R 36 [(0, kR 186), (1, kR t), (2, kI d)] μ := by
  refine vm_step2 mt_X2_readDiary ok_X2_readDiary [(7, [0, 1, 2]), (36, [0, 1, 2]), (61, [0, 1, 2, 3])] 1000 ?_
  show isC t 7 ∧ (r32 d ∧ r32 (μ t 16)) ∧ (((μ t 16) ≤ d) → R μ none) ∧ (¬ ((μ t 16) ≤ d) → (r32 d ∧ r32 (7 : Int)) ∧ (((7 : Int) ≤ d) → R μ none) ∧ (¬ ((7 : Int) ≤ d) → r32 d ∧ ((d ≤ 0) → V_X2_readDiary R 61 [(0, kR 186), (1, kR t), (2, kI d), (3, kI 0)] μ) ∧ (¬ (d ≤ 0) → isC 186 2 ∧ P_X2_passNight 186 t μ ∧ (∀ (μ5 : Mem), Q_X2_passNight 186 t μ μ5 → V_X2_readDiary R 61 [(0, kR 186), (1, kR t), (2, kI d), (3, kI 0)] μ5))))
  exact ⟨isT_C ht, ⟨⟨H.1, H.2.1⟩, fun hc10 => (H.2.2.1 hc10), fun hc10 => ⟨⟨(H.2.2.2 hc10).1, by unfold r32; omega⟩, fun hc9 => ((H.2.2.2 hc10).2.1 hc9), fun hc9 => ⟨((H.2.2.2 hc10).2.2 hc9).1, fun hc8 => (((H.2.2.2 hc10).2.2 hc9).2.1 hc8), fun hc8 => ⟨c_186, (((H.2.2.2 hc10).2.2 hc9).2.2 hc8).1, fun μ5 hq7 => ((((H.2.2.2 hc10).2.2 hc9).2.2 hc8).2 μ5 hq7)⟩⟩⟩⟩⟩
set_option maxRecDepth 20000 in
theorem vc_X2_readDiary_61 {R : Mem → Option AV → Prop} {d a t : Int} {μ : Mem} (ht : isT t) (H : r32 a ∧ r32 (μ t 1) ∧ (((μ t 1) ≤ a) → V_X2_readDiary R 36 [(0, kR 186), (1, kR t), (2, kI (d + 1))] μ) ∧ (¬ ((μ t 1) ≤ a) → (0 ≤ a ∧ a < 8) ∧ (0 ≤ d ∧ d < 7) ∧ r32 a ∧ r32 (μ (t + 9) d) ∧ ((¬ a = (μ (t + 9) d)) → (0 ≤ a ∧ a < 8) ∧ V_X2_readDiary R 61 [(0, kR 186), (1, kR t), (2, kI d), (3, kI (a + 1))] (updm μ 193 a ((μ 193 a) * 12))) ∧ (¬ (¬ a = (μ (t + 9) d)) → (0 ≤ a ∧ a < 8) ∧ r32 (12 - (μ (t + 4) a)) ∧ (0 ≤ a ∧ a < 8) ∧ V_X2_readDiary R 61 [(0, kR 186), (1, kR t), (2, kI d), (3, kI (a + 1))] (updm μ 193 a ((μ 193 a) * (12 - (μ (t + 4) a))))))) : V_X2_readDiary R 61 [(0, kR 186), (1, kR t), (2, kI d), (3, kI a)] μ := by
  refine vm_step2 mt_X2_readDiary ok_X2_readDiary [(7, [0, 1, 2]), (36, [0, 1, 2]), (61, [0, 1, 2, 3])] 1000 ?_
  show isC t 7 ∧ (r32 a ∧ r32 (μ t 1)) ∧ (((μ t 1) ≤ a) → V_X2_readDiary R 36 [(0, kR 186), (1, kR t), (2, kI (d + 1))] μ) ∧ (¬ ((μ t 1) ≤ a) → isC 186 2 ∧ inA 193 1 a ∧ isC t 7 ∧ inA (t + 9) 0 d ∧ (r32 a ∧ r32 (μ (t + 9) d)) ∧ ((¬ a = (μ (t + 9) d)) → inA 193 1 a ∧ V_X2_readDiary R 61 [(0, kR 186), (1, kR t), (2, kI d), (3, kI (a + 1))] (updm μ 193 a ((μ 193 a) * 12))) ∧ (¬ (¬ a = (μ (t + 9) d)) → isC t 7 ∧ inA (t + 4) 0 a ∧ r32 (12 - (μ (t + 4) a)) ∧ inA 193 1 a ∧ V_X2_readDiary R 61 [(0, kR 186), (1, kR t), (2, kI d), (3, kI (a + 1))] (updm μ 193 a ((μ 193 a) * (12 - (μ (t + 4) a))))))
  exact ⟨isT_C ht, ⟨⟨H.1, H.2.1⟩, fun hc12 => (H.2.2.1 hc12), fun hc12 => ⟨c_186, ⟨isArr.in a_193 (H.2.2.2 hc12).1.1 (H.2.2.2 hc12).1.2, ⟨isT_C ht, ⟨isArr.in (T_diary ht) (H.2.2.2 hc12).2.1.1 (H.2.2.2 hc12).2.1.2, ⟨⟨(H.2.2.2 hc12).2.2.1, (H.2.2.2 hc12).2.2.2.1⟩, fun hc11 => ⟨isArr.in a_193 ((H.2.2.2 hc12).2.2.2.2.1 hc11).1.1 ((H.2.2.2 hc12).2.2.2.2.1 hc11).1.2, ((H.2.2.2 hc12).2.2.2.2.1 hc11).2⟩, fun hc11 => ⟨isT_C ht, ⟨isArr.in (T_dog ht) ((H.2.2.2 hc12).2.2.2.2.2 hc11).1.1 ((H.2.2.2 hc12).2.2.2.2.2 hc11).1.2, ⟨((H.2.2.2 hc12).2.2.2.2.2 hc11).2.1, ⟨isArr.in a_193 ((H.2.2.2 hc12).2.2.2.2.2 hc11).2.2.1.1 ((H.2.2.2 hc12).2.2.2.2.2 hc11).2.2.1.2, ((H.2.2.2 hc12).2.2.2.2.2 hc11).2.2.2⟩⟩⟩⟩⟩⟩⟩⟩⟩⟩⟩
theorem body_X2_readDiary {o t : Int} {μ : Mem} {R : Mem → Option AV → Prop} (h : P_X2_readDiary o t μ) (hR : ∀ μ' : Mem, Q_X2_readDiary o t μ μ' → R μ' none) : V_X2_readDiary R 0 [(0, kR o), (1, kR t)] μ := by
  obtain ⟨rfl, ⟨ht, ok⟩, hca⟩ := h
  have hp : 2 ≤ μ t 1 ∧ μ t 1 ≤ 8 := ok.1
  have hd : 0 ≤ μ t 16 ∧ μ t 16 ≤ 7 := ok.2.2.2.2.2.2.2.2.2.1
  have hT := isT_hi ht
  refine vc_X2_readDiary_0 ht ⟨⟨rfl, ht, ok⟩, fun μ1 hq => ?_⟩
  have fr : ∀ {m : Mem}, (∀ z : Int, z ≠ 187 → z ≠ 193 → z ≠ 194 → m z = μ z) → ∀ z : Int, t ≤ z → z ≤ t + 9 → m z = μ z := fun h z z0 z1 => h z (by omega) (by omega) (by omega)
  -- the days
  have pd : ∀ d : Int, 0 ≤ d → d ≤ μ t 16 → ∀ m : Mem, (∀ z : Int, z ≠ 187 → z ≠ 193 → z ≠ 194 → m z = μ z) → Holds2 m 187 (tv μ t 0 0) (mvV (tv μ t)) → (∀ a : Int, 0 ≤ a → a < μ t 1 → m 193 a = diaV (tv μ t) d a) → V_X2_readDiary R 36 [(0, kR 186), (1, kR t), (2, kI d)] m := by
    refine up_ind (P := fun d => ∀ m : Mem, (∀ z : Int, z ≠ 187 → z ≠ 193 → z ≠ 194 → m z = μ z) → Holds2 m 187 (tv μ t 0 0) (mvV (tv μ t)) → (∀ a : Int, 0 ≤ a → a < μ t 1 → m 193 a = diaV (tv μ t) d a) → V_X2_readDiary R 36 [(0, kR 186), (1, kR t), (2, kI d)] m) ?_ ?_
    · intro d d0 d1 ih m hf hh hn
      -- a day's places
      have pa : ∀ g : Int → Int, (∀ a : Int, 0 ≤ a → a < μ t 1 → g a = (if d ≤ 0 then diaV (tv μ t) d else nightV (tv μ t) (diaV (tv μ t) d)) a) → ∀ a : Int, 0 ≤ a → a ≤ μ t 1 → ∀ m : Mem, (∀ z : Int, z ≠ 187 → z ≠ 193 → z ≠ 194 → m z = μ z) → Holds2 m 187 (tv μ t 0 0) (mvV (tv μ t)) → (∀ b : Int, 0 ≤ b → b < a → m 193 b = diaV (tv μ t) (d + 1) b) → (∀ b : Int, a ≤ b → b < μ t 1 → m 193 b = g b) → V_X2_readDiary R 61 [(0, kR 186), (1, kR t), (2, kI d), (3, kI a)] m := by
        intro g hg
        refine up_ind (P := fun a => ∀ m : Mem, (∀ z : Int, z ≠ 187 → z ≠ 193 → z ≠ 194 → m z = μ z) → Holds2 m 187 (tv μ t 0 0) (mvV (tv μ t)) → (∀ b : Int, 0 ≤ b → b < a → m 193 b = diaV (tv μ t) (d + 1) b) → (∀ b : Int, a ≤ b → b < μ t 1 → m 193 b = g b) → V_X2_readDiary R 61 [(0, kR 186), (1, kR t), (2, kI d), (3, kI a)] m) ?_ ?_
        · intro a a0 a1 iha m hf hh h1 h2
          have e1 : m t 1 = μ t 1 := by rw [hf t (by omega) (by omega) (by omega)]
          have e9 : m (t + 9) d = tv μ t 13 d := by rw [hf (t + 9) (by omega) (by omega) (by omega)]; exact e13 μ t d0 d1
          have e5' : m (t + 4) a = tv μ t 5 a := by rw [hf (t + 4) (by omega) (by omega) (by omega)]; exact e5 μ t a0 (by omega)
          have hd5 := (ok.2.2.2.1 a a0 (by omega)).2.1
          have hd13 := ok.2.2.2.2.2.2.2.2.2.2 d d0 d1
          have hdp : tv μ t 0 0 = μ t 1 := rfl
          have nx : ∀ x : Int, x = diaV (tv μ t) (d + 1) a → V_X2_readDiary R 61 [(0, kR 186), (1, kR t), (2, kI d), (3, kI (a + 1))] (updm m 193 a x) := by
            intro x hx
            refine iha _ (fun z z0 z1 z2 => by rw [ru_ne z1]; exact hf z z0 z1 z2) (fun a' b' x0 x1 y0 y1 => by rw [ru_ne (by omega)]; exact hh a' b' x0 x1 y0 y1) (fun b x0 x1 => ?_) (fun b x0 x1 => ?_)
            · rw [ru_eq]
              by_cases hb : b = a
              · rw [hb, r1_eq, hx]
              · rw [r1_ne hb]; exact h1 b x0 (by omega)
            · rw [ru_eq, r1_ne (by omega)]; exact h2 b (by omega) x1
          have ex : diaV (tv μ t) (d + 1) a = m 193 a * (if a = tv μ t 13 d then 12 - tv μ t 5 a else 12) := by
            rw [diaV_s d0, h2 a (Int.le_refl _) a1, hg a a0 a1]
            rfl
          refine vc_X2_readDiary_61 ht ?_
          rw [e1, e9, e5']
          refine ⟨rr (by omega), rr (by omega), fun c => absurd c (by omega), fun _ => ⟨by omega, by omega, rr (by omega), rr (by omega), fun c => ⟨by omega, nx _ ?_⟩, fun c => ⟨by omega, rr (by omega), by omega, nx _ ?_⟩⟩⟩
          · rw [ex, if_neg c]
          · rw [ex, if_pos (by omega)]
        · intro m hf hh h1 h2
          have e1 : m t 1 = μ t 1 := by rw [hf t (by omega) (by omega) (by omega)]
          refine vc_X2_readDiary_61 ht ?_
          rw [e1]
          exact ⟨rr (by omega), rr (by omega), fun _ => ih m hf hh h1, fun c => absurd (Int.le_refl _) c⟩
      have e16 : m t 16 = μ t 16 := by rw [hf t (by omega) (by omega) (by omega)]
      refine vc_X2_readDiary_36 ht ?_
      rw [e16]
      refine ⟨rr (by omega), rr (by omega), fun c => absurd c (by omega), fun _ => ⟨rr (by omega), fun c => absurd c (by omega), fun _ => ⟨rr (by omega), fun c => ?_, fun c => ?_⟩⟩⟩
      · exact pa (m 193) (fun a a0 a1 => by rw [if_pos c]; exact hn a a0 a1) 0 (by omega) (by omega) m hf hh (fun b x0 x1 => absurd x0 (by omega)) (fun _ _ _ => rfl)
      · have etv := tv_frame (fr hf)
        refine ⟨⟨rfl, TB_frame ⟨ht, ok⟩ (fr hf), by rw [etv]; exact hca, by rw [etv]; exact hh⟩, fun μ5 hq5 => ?_⟩
        unfold Q_X2_passNight at hq5
        rw [etv] at hq5
        exact pa (μ5 193) (fun a a0 a1 => by
          rw [if_neg c, hq5.1 a a0 a1]
          exact night_congr hn a) 0 (by omega) (by omega) μ5 (fun z z0 z1 z2 => by rw [hq5.2 z z1 z2]; exact hf z z0 z1 z2) (fun a' b' x0 x1 y0 y1 => by rw [hq5.2 187 (by omega) (by omega)]; exact hh a' b' x0 x1 y0 y1) (fun b x0 x1 => absurd x0 (by omega)) (fun _ _ _ => rfl)
    · intro m hf hh hn
      have e16 : m t 16 = μ t 16 := by rw [hf t (by omega) (by omega) (by omega)]
      refine vc_X2_readDiary_36 ht ?_
      rw [e16]
      exact ⟨rr (by omega), rr (by omega), fun _ => hR m ⟨hn, hf⟩, fun c => absurd (Int.le_refl _) c⟩
  -- the chances
  have pc : ∀ a : Int, 0 ≤ a → a ≤ μ t 1 → ∀ m : Mem, (∀ z : Int, z ≠ 187 → z ≠ 193 → z ≠ 194 → m z = μ z) → Holds2 m 187 (tv μ t 0 0) (mvV (tv μ t)) → (∀ b : Int, 0 ≤ b → b < a → m 193 b = tv μ t 4 b) → V_X2_readDiary R 7 [(0, kR 186), (1, kR t), (2, kI a)] m := by
    refine up_ind (P := fun a => ∀ m : Mem, (∀ z : Int, z ≠ 187 → z ≠ 193 → z ≠ 194 → m z = μ z) → Holds2 m 187 (tv μ t 0 0) (mvV (tv μ t)) → (∀ b : Int, 0 ≤ b → b < a → m 193 b = tv μ t 4 b) → V_X2_readDiary R 7 [(0, kR 186), (1, kR t), (2, kI a)] m) ?_ ?_
    · intro a a0 a1 iha m hf hh h1
      have e1 : m t 1 = μ t 1 := by rw [hf t (by omega) (by omega) (by omega)]
      have e3 : m (t + 3) a = tv μ t 4 a := by rw [hf (t + 3) (by omega) (by omega) (by omega)]; exact e4 μ t a0 (by omega)
      have hc := (ok.2.2.2.1 a a0 (by omega)).1
      refine vc_X2_readDiary_7 ht ?_
      rw [e1, e3]
      refine ⟨rr (by omega), rr (by omega), fun c => absurd c (by omega), fun _ => ⟨by omega, rr (by omega), by omega, ?_⟩⟩
      refine iha _ (fun z z0 z1 z2 => by rw [ru_ne z1]; exact hf z z0 z1 z2) (fun a' b' x0 x1 y0 y1 => by rw [ru_ne (by omega)]; exact hh a' b' x0 x1 y0 y1) (fun b x0 x1 => ?_)
      rw [ru_eq]
      by_cases hb : b = a
      · rw [hb, r1_eq]
      · rw [r1_ne hb]; exact h1 b x0 (by omega)
    · intro m hf hh h1
      have e1 : m t 1 = μ t 1 := by rw [hf t (by omega) (by omega) (by omega)]
      refine vc_X2_readDiary_7 ht ?_
      rw [e1]
      exact ⟨rr (by omega), rr (by omega), fun _ => pd 0 (by omega) (by omega) m hf hh h1, fun c => absurd (Int.le_refl _) c⟩
  exact pc 0 (by omega) (by omega) μ1 (fun z z0 _ _ => hq.2 z z0) hq.1 (fun b x0 x1 => absurd x0 (by omega))
theorem ct_X2_readDiary : Ct mX2_readDiary 3 83 0 0 (nrmS S_X2_readDiary) := by
  refine ct_vm (own := RX2) (by decide +kernel) rfl ?_ ?_
  · intro as μ Q hS
    unfold S_X2_readDiary at hS
    split at hS
    · exact Nat.le_of_ble_eq_true rfl
    · exact hS.elim
  · intro as μ R hS
    unfold S_X2_readDiary at hS
    split at hS
    · exact body_X2_readDiary hS.1 hS.2
    · exact hS.elim
def P_X2_spreadOut (o t d : Int) (μ : Mem) : Prop := o = 186 ∧ TB μ t ∧ calm (tv μ t) ∧ Holds2 μ 187 (tv μ t 0 0) (mvV (tv μ t)) ∧ (0 ≤ d ∧ d < 5)
def Q_X2_spreadOut (_ t d : Int) (μ μ' : Mem) : Prop := (∀ a : Int, 0 ≤ a → a < tv μ t 0 0 → μ' 189 (8 * d + a) = nightV (tv μ t) (fun b => μ 188 (8 * d + b)) a * 12) ∧ (∀ j : Int, (j < 8 * d ∨ 8 * d + 8 ≤ j) → μ' 189 j = μ 189 j) ∧ ∀ z : Int, z ≠ 189 → μ' z = μ z
def S_X2_spreadOut : S0t := fun as μ Q => match as with
  | [(2, x0), (2, x1), (0, x2)] => P_X2_spreadOut x0 x1 x2 μ ∧ ∀ (μ' : Mem) , Q_X2_spreadOut x0 x1 x2 μ μ'  → Q μ' none
  | _ => False
theorem mono_X2_spreadOut : Mono S_X2_spreadOut := by
  intro as μ Q Q' h hS
  unfold S_X2_spreadOut at hS ⊢
  split at hS
  · exact ⟨hS.1, fun μ' q => h _ _ (hS.2 _ q)⟩
  · exact hS.elim
def iX2_spreadOut : Inf := (kX2_spreadOut, fTX2, pTX2, cTX2, lTX2, sTX2, [])
theorem ok_X2_spreadOut : infOK iX2_spreadOut mX2_spreadOut RX2 0 0 := ⟨kkX2_spreadOut, fTX2_ok, pTX2_ok _, cTX2_ok, lTX2_ok, sTX2_ok, c_nil⟩
theorem mt_X2_spreadOut : mtOK [] RX2 0 0 := mt_nil
abbrev V_X2_spreadOut (R : Mem → Option AV → Prop) (pc : Nat) (lc : List (Nat × AV)) (μ : Mem) : Prop := VM mX2_spreadOut RX2 0 0 R pc lc [] μ
set_option maxRecDepth 20000 in
theorem vc_X2_spreadOut_0 {R : Mem → Option AV → Prop} {d t : Int} {μ : Mem} (ht : isT t) (H : V_X2_spreadOut R 2 [(0, kR 186), (1, kR t), (2, kI d), (3, kI 0)] μ) : V_X2_spreadOut R 0 [(0, kR 186), (1, kR t), (2, kI d)] μ := by
  refine vm_step2 mt_X2_spreadOut ok_X2_spreadOut [(2, [0, 1, 2, 3]), (16, [0, 1, 2, 3, 4, 6])] 1000 ?_
  show V_X2_spreadOut R 2 [(0, kR 186), (1, kR t), (2, kI d), (3, kI 0)] μ
  exact H
set_option maxRecDepth 20000 in
theorem vc_X2_spreadOut_2 {R : Mem → Option AV → Prop} {d a t : Int} {μ : Mem} (ht : isT t) (H : r32 a ∧ r32 (μ t 1) ∧ (((μ t 1) ≤ a) → R μ none) ∧ (¬ ((μ t 1) ≤ a) → V_X2_spreadOut R 16 [(0, kR 186), (1, kR t), (2, kI d), (3, kI a), (4, kL 0), (6, kI 0)] μ)) : V_X2_spreadOut R 2 [(0, kR 186), (1, kR t), (2, kI d), (3, kI a)] μ := by
  refine vm_step2 mt_X2_spreadOut ok_X2_spreadOut [(2, [0, 1, 2, 3]), (16, [0, 1, 2, 3, 4, 6])] 1000 ?_
  show isC t 7 ∧ (r32 a ∧ r32 (μ t 1)) ∧ (((μ t 1) ≤ a) → R μ none) ∧ (¬ ((μ t 1) ≤ a) → V_X2_spreadOut R 16 [(0, kR 186), (1, kR t), (2, kI d), (3, kI a), (4, kL 0), (6, kI 0)] μ)
  exact ⟨isT_C ht, ⟨⟨H.1, H.2.1⟩, fun hc1 => (H.2.2.1 hc1), fun hc1 => (H.2.2.2 hc1)⟩⟩
set_option maxRecDepth 20000 in
theorem vc_X2_spreadOut_16 {R : Mem → Option AV → Prop} {d a s b t : Int} {μ : Mem} (ht : isT t) (H : r32 b ∧ r32 (μ t 1) ∧ (((μ t 1) ≤ b) → (0 ≤ ((d * 8) + a) ∧ ((d * 8) + a) < 40) ∧ V_X2_spreadOut R 2 [(0, kR 186), (1, kR t), (2, kI d), (3, kI (a + 1))] (updm μ 189 ((d * 8) + a) (s * 12))) ∧ (¬ ((μ t 1) ≤ b) → (0 ≤ ((a * 8) + b) ∧ ((a * 8) + b) < 64) ∧ r32 (μ 187 ((a * 8) + b)) ∧ (0 ≤ ((d * 8) + b) ∧ ((d * 8) + b) < 40) ∧ V_X2_spreadOut R 16 [(0, kR 186), (1, kR t), (2, kI d), (3, kI a), (4, kL (s + ((μ 187 ((a * 8) + b)) * (μ 188 ((d * 8) + b))))), (6, kI (b + 1))] μ)) : V_X2_spreadOut R 16 [(0, kR 186), (1, kR t), (2, kI d), (3, kI a), (4, kL s), (6, kI b)] μ := by
  refine vm_step2 mt_X2_spreadOut ok_X2_spreadOut [(2, [0, 1, 2, 3]), (16, [0, 1, 2, 3, 4, 6])] 1000 ?_
  show isC t 7 ∧ (r32 b ∧ r32 (μ t 1)) ∧ (((μ t 1) ≤ b) → isC 186 2 ∧ inA 189 1 ((d * 8) + a) ∧ V_X2_spreadOut R 2 [(0, kR 186), (1, kR t), (2, kI d), (3, kI (a + 1))] (updm μ 189 ((d * 8) + a) (s * 12))) ∧ (¬ ((μ t 1) ≤ b) → isC 186 2 ∧ inA 187 0 ((a * 8) + b) ∧ r32 (μ 187 ((a * 8) + b)) ∧ isC 186 2 ∧ inA 188 1 ((d * 8) + b) ∧ V_X2_spreadOut R 16 [(0, kR 186), (1, kR t), (2, kI d), (3, kI a), (4, kL (s + ((μ 187 ((a * 8) + b)) * (μ 188 ((d * 8) + b))))), (6, kI (b + 1))] μ)
  exact ⟨isT_C ht, ⟨⟨H.1, H.2.1⟩, fun hc2 => ⟨c_186, ⟨isArr.in a_189 (H.2.2.1 hc2).1.1 (H.2.2.1 hc2).1.2, (H.2.2.1 hc2).2⟩⟩, fun hc2 => ⟨c_186, ⟨isArr.in a_187 (H.2.2.2 hc2).1.1 (H.2.2.2 hc2).1.2, ⟨(H.2.2.2 hc2).2.1, ⟨c_186, ⟨isArr.in a_188 (H.2.2.2 hc2).2.2.1.1 (H.2.2.2 hc2).2.2.1.2, (H.2.2.2 hc2).2.2.2⟩⟩⟩⟩⟩⟩⟩
theorem body_X2_spreadOut {o t d : Int} {μ : Mem} {R : Mem → Option AV → Prop} (h : P_X2_spreadOut o t d μ) (hR : ∀ μ' : Mem, Q_X2_spreadOut o t d μ μ' → R μ' none) : V_X2_spreadOut R 0 [(0, kR o), (1, kR t), (2, kI d)] μ := by
  obtain ⟨rfl, ⟨ht, ok⟩, hca, hmo, hd⟩ := h
  have hp : 2 ≤ μ t 1 ∧ μ t 1 ≤ 8 := ok.1
  have hT := isT_hi ht
  refine vc_X2_spreadOut_0 ht ?_
  have pa : ∀ a : Int, 0 ≤ a → a ≤ μ t 1 → ∀ m : Mem, (∀ z : Int, z ≠ 189 → m z = μ z) → (∀ j : Int, (j < 8 * d ∨ 8 * d + 8 ≤ j) → m 189 j = μ 189 j) → (∀ a' : Int, 0 ≤ a' → a' < a → m 189 (8 * d + a') = nightV (tv μ t) (fun b => μ 188 (8 * d + b)) a' * 12) → V_X2_spreadOut R 2 [(0, kR 186), (1, kR t), (2, kI d), (3, kI a)] m := by
    refine up_ind (P := fun a => ∀ m : Mem, (∀ z : Int, z ≠ 189 → m z = μ z) → (∀ j : Int, (j < 8 * d ∨ 8 * d + 8 ≤ j) → m 189 j = μ 189 j) → (∀ a' : Int, 0 ≤ a' → a' < a → m 189 (8 * d + a') = nightV (tv μ t) (fun b => μ 188 (8 * d + b)) a' * 12) → V_X2_spreadOut R 2 [(0, kR 186), (1, kR t), (2, kI d), (3, kI a)] m) ?_ ?_
    · intro a a0 a1 iha m hf ho hh
      have e1 : m t 1 = μ t 1 := by rw [hf t (by omega)]
      have pb : ∀ b : Int, 0 ≤ b → b ≤ μ t 1 → V_X2_spreadOut R 16 [(0, kR 186), (1, kR t), (2, kI d), (3, kI a), (4, kL (sm (fun b => mvV (tv μ t) a b * μ 188 (8 * d + b)) b)), (6, kI b)] m := by
        refine up_ind (P := fun b => V_X2_spreadOut R 16 [(0, kR 186), (1, kR t), (2, kI d), (3, kI a), (4, kL (sm (fun b => mvV (tv μ t) a b * μ 188 (8 * d + b)) b)), (6, kI b)] m) ?_ ?_
        · intro b b0 b1 ih
          rw [sm_s b0] at ih
          have i3 : a * 8 + b = 8 * a + b := by omega
          have i4 : d * 8 + b = 8 * d + b := by omega
          have em : m 187 (8 * a + b) = mvV (tv μ t) a b := by rw [hf 187 (by omega)]; exact hmo a b a0 a1 b0 b1
          have mb := mvV_bd (b := b) ok hca a0 a1
          refine vc_X2_spreadOut_16 ht ?_
          rw [e1, i3, i4, em, hf 188 (by omega)]
          exact ⟨rr (by omega), rr (by omega), fun c => absurd c (by omega), fun _ => ⟨by omega, rr (by omega), by omega, ih⟩⟩
        · refine vc_X2_spreadOut_16 ht ?_
          rw [e1]
          refine ⟨rr (by omega), rr (by omega), fun _ => ⟨by omega, ?_⟩, fun c => absurd (Int.le_refl _) c⟩
          have i4 : d * 8 + a = 8 * d + a := by omega
          rw [i4]
          refine iha _ (fun z z0 => by rw [ru_ne z0]; exact hf z z0) (fun j hj => by rw [ru_eq, r1_ne (by omega)]; exact ho j hj) (fun a' x0 x1 => ?_)
          rw [ru_eq]
          by_cases hb : a' = a
          · rw [hb, r1_eq]; rfl
          · rw [r1_ne (by omega)]; exact hh a' x0 (by omega)
      refine vc_X2_spreadOut_2 ht ?_
      rw [e1]
      exact ⟨rr (by omega), rr (by omega), fun c => absurd c (by omega), fun _ => pb 0 (by omega) (by omega)⟩
    · intro m hf ho hh
      have e1 : m t 1 = μ t 1 := by rw [hf t (by omega)]
      refine vc_X2_spreadOut_2 ht ?_
      rw [e1]
      exact ⟨rr (by omega), rr (by omega), fun _ => hR m ⟨hh, ho, hf⟩, fun c => absurd (Int.le_refl _) c⟩
  exact pa 0 (by omega) (by omega) μ (fun _ _ => rfl) (fun _ _ => rfl) (fun a' x0 x1 => absurd x0 (by omega))
theorem ct_X2_spreadOut : Ct mX2_spreadOut 0 0 0 0 (nrmS S_X2_spreadOut) := by
  refine ct_vm (own := RX2) (by decide +kernel) rfl ?_ ?_
  · intro as μ Q hS
    unfold S_X2_spreadOut at hS
    split at hS
    · exact Nat.le_of_ble_eq_true rfl
    · exact hS.elim
  · intro as μ R hS
    unfold S_X2_spreadOut at hS
    split at hS
    · exact body_X2_spreadOut hS.1 hS.2
    · exact hS.elim
/-- a day whose look found nothing, and the night behind it -/
def lieS (v : TV) (x : Int) (f : Int → Int) : Int → Int := nightV v (dayV v x f)
theorem sm_add {f g : Int → Int} {n : Int} (hn : 0 ≤ n) : sm (fun i => f i + g i) n = sm f n + sm g n := by
  have key : ∀ k : Nat, sm (fun i => f i + g i) (k : Int) = sm f k + sm g k := by
    intro k
    induction k with
    | zero => rfl
    | succ k ih =>
      have e : ((k + 1 : Nat) : Int) = (k : Int) + 1 := by omega
      rw [e, sm_s (by omega), sm_s (by omega), sm_s (by omega), ih]
      omega
  have := key n.toNat
  rwa [Int.toNat_of_nonneg hn] at this
theorem sm_mul {f : Int → Int} {n c : Int} (hn : 0 ≤ n) : sm (fun i => f i * c) n = sm f n * c := by
  have key : ∀ k : Nat, sm (fun i => f i * c) (k : Int) = sm f k * c := by
    intro k
    induction k with
    | zero => show (0 : Int) = 0 * c; omega
    | succ k ih =>
      have e : ((k + 1 : Nat) : Int) = (k : Int) + 1 := by omega
      rw [e, sm_s (by omega), sm_s (by omega), ih, Int.add_mul]
  have := key n.toNat
  rwa [Int.toNat_of_nonneg hn] at this
theorem sm_one {x c : Int} {n : Int} (hn : 0 ≤ n) : sm (fun i => if i = x then c else 0) n = if 0 ≤ x ∧ x < n then c else 0 := by
  have key : ∀ k : Nat, sm (fun i => if i = x then c else 0) (k : Int) = if 0 ≤ x ∧ x < k then c else 0 := by
    intro k
    induction k with
    | zero => show (0 : Int) = _; rw [if_neg (by omega)]
    | succ k ih =>
      have e : ((k + 1 : Nat) : Int) = (k : Int) + 1 := by omega
      rw [e, sm_s (by omega), ih]
      by_cases h1 : (k : Int) = x
      · rw [if_pos h1, if_neg (by omega), if_pos (by omega)]; omega
      · rw [if_neg h1]
        by_cases h2 : 0 ≤ x ∧ x < (k : Int)
        · rw [if_pos h2, if_pos (by omega)]; omega
        · rw [if_neg h2, if_neg (by omega)]; omega
  have := key n.toNat
  rwa [Int.toNat_of_nonneg hn] at this
theorem lieS_eq {v : TV} {x : Int} {f : Int → Int} (hp : 0 ≤ v 0 0) (x0 : 0 ≤ x) (x1 : x < v 0 0) (a : Int) : lieS v x f a = nightV v f a * 12 - mvV v a x * (f x * v 5 x) := by
  unfold lieS nightV
  have e : ∀ i : Int, 0 ≤ i → i < v 0 0 → mvV v a i * dayV v x f i = mvV v a i * f i * 12 + (if i = x then -(mvV v a x * (f x * v 5 x)) else 0) := by
    intro i _ _
    unfold dayV
    by_cases h : i = x
    · subst h
      rw [if_pos rfl, if_pos rfl, Int.mul_sub, Int.mul_sub, Int.mul_assoc (mvV v a i) (f i) 12]
      omega
    · rw [if_neg h, if_neg h, Int.mul_assoc]; omega
  rw [sm_congr e, sm_add hp, sm_mul hp, sm_one hp, if_pos ⟨x0, x1⟩]
  omega
def P_X2_passDay (o t d : Int) (μ : Mem) : Prop := o = 186 ∧ TB μ t ∧ calm (tv μ t) ∧ Holds2 μ 187 (tv μ t 0 0) (mvV (tv μ t)) ∧ (0 ≤ d ∧ d < 4) ∧ (0 ≤ μ 191 d ∧ μ 191 d < tv μ t 0 0) ∧ (1 ≤ μ 186 10 ∧ μ 186 10 ≤ 5) ∧
  (∀ a : Int, 0 ≤ a → a < tv μ t 0 0 → μ 189 (8 * d + a) = nightV (tv μ t) (fun b => μ 188 (8 * d + b)) a * 12)
def Q_X2_passDay (_ t d : Int) (μ μ' : Mem) : Prop := (∀ a : Int, 0 ≤ a → a < tv μ t 0 0 → μ' 188 (8 * (d + 1) + a) = lieS (tv μ t) (μ 191 d) (fun b => μ 188 (8 * d + b)) a) ∧
  μ' 190 (d + 1) = (μ 190 d + μ 188 (8 * d + μ 191 d) * tv μ t 5 (μ 191 d) * 12) * 12 * 12 ∧
  (d + 1 < μ 186 10 - 1 → ∀ a : Int, 0 ≤ a → a < tv μ t 0 0 → μ' 189 (8 * (d + 1) + a) = nightV (tv μ t) (fun b => μ' 188 (8 * (d + 1) + b)) a * 12) ∧
  (∀ j : Int, j < 8 * (d + 1) → μ' 188 j = μ 188 j ∧ μ' 189 j = μ 189 j) ∧ (∀ j : Int, j ≠ d + 1 → μ' 190 j = μ 190 j) ∧ ∀ z : Int, z ≠ 188 → z ≠ 189 → z ≠ 190 → μ' z = μ z
def S_X2_passDay : S0t := fun as μ Q => match as with
  | [(2, x0), (2, x1), (0, x2)] => P_X2_passDay x0 x1 x2 μ ∧ ∀ (μ' : Mem) , Q_X2_passDay x0 x1 x2 μ μ'  → Q μ' none
  | _ => False
theorem mono_X2_passDay : Mono S_X2_passDay := by
  intro as μ Q Q' h hS
  unfold S_X2_passDay at hS ⊢
  split at hS
  · exact ⟨hS.1, fun μ' q => h _ _ (hS.2 _ q)⟩
  · exact hS.elim
def iX2_passDay : Inf := (kX2_passDay, fTX2, pTX2, cTX2, lTX2, sTX2, [(80, 0, 2, 2, S_X2_spreadOut)])
theorem ok_X2_passDay : infOK iX2_passDay mX2_passDay RX2 1 26 := ⟨kkX2_passDay, fTX2_ok, pTX2_ok _, cTX2_ok, lTX2_ok, sTX2_ok, c_cons ⟨mX2_spreadOut, 0, 0, ct_X2_spreadOut, mmX2_spreadOut, vvX2_spreadOut, lkX2_80, ⟨by decide, by decide⟩, ⟨_, _, rfl⟩, by decide, mono_X2_spreadOut⟩ (c_nil)⟩
theorem mt_X2_passDay : mtOK [] RX2 1 26 := mt_nil
abbrev V_X2_passDay (R : Mem → Option AV → Prop) (pc : Nat) (lc : List (Nat × AV)) (μ : Mem) : Prop := VM mX2_passDay RX2 1 26 R pc lc [] μ
set_option maxRecDepth 20000 in
theorem vc_X2_passDay_0 {R : Mem → Option AV → Prop} {d t : Int} {μ : Mem} (ht : isT t) (H : (0 ≤ d ∧ d < 5) ∧ (0 ≤ ((d * 8) + (μ 191 d)) ∧ ((d * 8) + (μ 191 d)) < 40) ∧ (0 ≤ (μ 191 d) ∧ (μ 191 d) < 8) ∧ r32 (μ (t + 4) (μ 191 d)) ∧ (0 ≤ d ∧ d < 5) ∧ (0 ≤ (d + 1) ∧ (d + 1) < 5) ∧ V_X2_passDay R 57 [(0, kR 186), (1, kR t), (2, kI d), (3, kI (μ 191 d)), (4, kL ((μ 188 ((d * 8) + (μ 191 d))) * (μ (t + 4) (μ 191 d))))] (updm μ 190 (d + 1) ((((μ 190 d) + (((μ 188 ((d * 8) + (μ 191 d))) * (μ (t + 4) (μ 191 d))) * 12)) * 12) * 12))) : V_X2_passDay R 0 [(0, kR 186), (1, kR t), (2, kI d)] μ := by
  refine vm_step2 mt_X2_passDay ok_X2_passDay [(57, [0, 1, 2, 3, 4]), (60, [0, 1, 2, 3, 4, 6]), (112, [0, 1, 2, 3, 4, 6])] 1000 ?_
  show isC 186 2 ∧ inA 191 0 d ∧ isC 186 2 ∧ inA 188 1 ((d * 8) + (μ 191 d)) ∧ isC t 7 ∧ inA (t + 4) 0 (μ 191 d) ∧ r32 (μ (t + 4) (μ 191 d)) ∧ isC 186 2 ∧ isC 186 2 ∧ inA 190 1 d ∧ inA 190 1 (d + 1) ∧ V_X2_passDay R 57 [(0, kR 186), (1, kR t), (2, kI d), (3, kI (μ 191 d)), (4, kL ((μ 188 ((d * 8) + (μ 191 d))) * (μ (t + 4) (μ 191 d))))] (updm μ 190 (d + 1) ((((μ 190 d) + (((μ 188 ((d * 8) + (μ 191 d))) * (μ (t + 4) (μ 191 d))) * 12)) * 12) * 12))
  exact ⟨c_186, ⟨isArr.in a_191 H.1.1 H.1.2, ⟨c_186, ⟨isArr.in a_188 H.2.1.1 H.2.1.2, ⟨isT_C ht, ⟨isArr.in (T_dog ht) H.2.2.1.1 H.2.2.1.2, ⟨H.2.2.2.1, ⟨c_186, ⟨c_186, ⟨isArr.in a_190 H.2.2.2.2.1.1 H.2.2.2.2.1.2, ⟨isArr.in a_190 H.2.2.2.2.2.1.1 H.2.2.2.2.2.1.2, H.2.2.2.2.2.2⟩⟩⟩⟩⟩⟩⟩⟩⟩⟩⟩
set_option maxRecDepth 20000 in
theorem vc_X2_passDay_57 {R : Mem → Option AV → Prop} {d p f t : Int} {μ : Mem} (ht : isT t) (H : V_X2_passDay R 60 [(0, kR 186), (1, kR t), (2, kI d), (3, kI p), (4, kL f), (6, kI 0)] μ) : V_X2_passDay R 57 [(0, kR 186), (1, kR t), (2, kI d), (3, kI p), (4, kL f)] μ := by
  refine vm_step2 mt_X2_passDay ok_X2_passDay [(57, [0, 1, 2, 3, 4]), (60, [0, 1, 2, 3, 4, 6]), (112, [0, 1, 2, 3, 4, 6])] 1000 ?_
  show V_X2_passDay R 60 [(0, kR 186), (1, kR t), (2, kI d), (3, kI p), (4, kL f), (6, kI 0)] μ
  exact H
set_option maxRecDepth 20000 in
theorem vc_X2_passDay_60 {R : Mem → Option AV → Prop} {d p f a t : Int} {μ : Mem} (ht : isT t) (H : r32 a ∧ r32 (μ t 1) ∧ (((μ t 1) ≤ a) → r32 (d + 1) ∧ r32 ((μ 186 10) - 1) ∧ ((((μ 186 10) - 1) ≤ (d + 1)) → R μ none) ∧ (¬ (((μ 186 10) - 1) ≤ (d + 1)) → P_X2_spreadOut 186 t (d + 1) μ ∧ (∀ (μ1 : Mem), Q_X2_spreadOut 186 t (d + 1) μ μ1 → R μ1 none))) ∧ (¬ ((μ t 1) ≤ a) → (0 ≤ ((d * 8) + a) ∧ ((d * 8) + a) < 40) ∧ (0 ≤ ((a * 8) + p) ∧ ((a * 8) + p) < 64) ∧ r32 (μ 187 ((a * 8) + p)) ∧ (0 ≤ (((d + 1) * 8) + a) ∧ (((d + 1) * 8) + a) < 40) ∧ V_X2_passDay R 112 [(0, kR 186), (1, kR t), (2, kI d), (3, kI p), (4, kL f), (6, kI a)] (updm μ 188 (((d + 1) * 8) + a) ((μ 189 ((d * 8) + a)) - ((μ 187 ((a * 8) + p)) * f))))) : V_X2_passDay R 60 [(0, kR 186), (1, kR t), (2, kI d), (3, kI p), (4, kL f), (6, kI a)] μ := by
  refine vm_step2 mt_X2_passDay ok_X2_passDay [(57, [0, 1, 2, 3, 4]), (60, [0, 1, 2, 3, 4, 6]), (112, [0, 1, 2, 3, 4, 6])] 1000 ?_
  show isC t 7 ∧ (r32 a ∧ r32 (μ t 1)) ∧ (((μ t 1) ≤ a) → isC 186 2 ∧ (r32 (d + 1) ∧ r32 ((μ 186 10) - 1)) ∧ ((((μ 186 10) - 1) ≤ (d + 1)) → R μ none) ∧ (¬ (((μ 186 10) - 1) ≤ (d + 1)) → isC 186 2 ∧ P_X2_spreadOut 186 t (d + 1) μ ∧ (∀ (μ1 : Mem), Q_X2_spreadOut 186 t (d + 1) μ μ1 → R μ1 none))) ∧ (¬ ((μ t 1) ≤ a) → isC 186 2 ∧ isC 186 2 ∧ inA 189 1 ((d * 8) + a) ∧ isC 186 2 ∧ inA 187 0 ((a * 8) + p) ∧ r32 (μ 187 ((a * 8) + p)) ∧ inA 188 1 (((d + 1) * 8) + a) ∧ V_X2_passDay R 112 [(0, kR 186), (1, kR t), (2, kI d), (3, kI p), (4, kL f), (6, kI a)] (updm μ 188 (((d + 1) * 8) + a) ((μ 189 ((d * 8) + a)) - ((μ 187 ((a * 8) + p)) * f))))
  exact ⟨isT_C ht, ⟨⟨H.1, H.2.1⟩, fun hc5 => ⟨c_186, ⟨⟨(H.2.2.1 hc5).1, (H.2.2.1 hc5).2.1⟩, fun hc4 => ((H.2.2.1 hc5).2.2.1 hc4), fun hc4 => ⟨c_186, ((H.2.2.1 hc5).2.2.2 hc4).1, fun μ1 hq3 => (((H.2.2.1 hc5).2.2.2 hc4).2 μ1 hq3)⟩⟩⟩, fun hc5 => ⟨c_186, ⟨c_186, ⟨isArr.in a_189 (H.2.2.2 hc5).1.1 (H.2.2.2 hc5).1.2, ⟨c_186, ⟨isArr.in a_187 (H.2.2.2 hc5).2.1.1 (H.2.2.2 hc5).2.1.2, ⟨(H.2.2.2 hc5).2.2.1, ⟨isArr.in a_188 (H.2.2.2 hc5).2.2.2.1.1 (H.2.2.2 hc5).2.2.2.1.2, (H.2.2.2 hc5).2.2.2.2⟩⟩⟩⟩⟩⟩⟩⟩⟩
set_option maxRecDepth 20000 in
theorem vc_X2_passDay_112 {R : Mem → Option AV → Prop} {d p f a t : Int} {μ : Mem} (ht : isT t) (H : V_X2_passDay R 60 [(0, kR 186), (1, kR t), (2, kI d), (3, kI p), (4, kL f), (6, kI (a + 1))] μ) : V_X2_passDay R 112 [(0, kR 186), (1, kR t), (2, kI d), (3, kI p), (4, kL f), (6, kI a)] μ := by
  refine vm_step2 mt_X2_passDay ok_X2_passDay [(57, [0, 1, 2, 3, 4]), (60, [0, 1, 2, 3, 4, 6]), (112, [0, 1, 2, 3, 4, 6])] 1000 ?_
  show V_X2_passDay R 60 [(0, kR 186), (1, kR t), (2, kI d), (3, kI p), (4, kL f), (6, kI (a + 1))] μ
  exact H
theorem body_X2_passDay {o t d : Int} {μ : Mem} {R : Mem → Option AV → Prop} (h : P_X2_passDay o t d μ) (hR : ∀ μ' : Mem, Q_X2_passDay o t d μ μ' → R μ' none) : V_X2_passDay R 0 [(0, kR o), (1, kR t), (2, kI d)] μ := by
  obtain ⟨rfl, ⟨ht, ok⟩, hca, hmo, hd, hx, hk, hs⟩ := h
  have hp : 2 ≤ μ t 1 ∧ μ t 1 ≤ 8 := ok.1
  have hx' : 0 ≤ μ 191 d ∧ μ 191 d < μ t 1 := hx
  have hT := isT_hi ht
  have hd5 := (ok.2.2.2.1 (μ 191 d) hx'.1 (by omega)).2.1
  have i8 : d * 8 + μ 191 d = 8 * d + μ 191 d := by omega
  refine vc_X2_passDay_0 ht ?_
  rw [e5 μ t hx'.1 (by omega), i8]
  refine ⟨by omega, by omega, by omega, rr (by omega), by omega, by omega, vc_X2_passDay_57 ht ?_⟩
  have pa : ∀ a : Int, 0 ≤ a → a ≤ μ t 1 → ∀ m : Mem, (∀ z : Int, z ≠ 188 → z ≠ 190 → m z = μ z) → (∀ j : Int, j < 8 * (d + 1) → m 188 j = μ 188 j) → (∀ j : Int, j ≠ d + 1 → m 190 j = μ 190 j) → m 190 (d + 1) = (μ 190 d + μ 188 (8 * d + μ 191 d) * tv μ t 5 (μ 191 d) * 12) * 12 * 12 → (∀ a' : Int, 0 ≤ a' → a' < a → m 188 (8 * (d + 1) + a') = lieS (tv μ t) (μ 191 d) (fun b => μ 188 (8 * d + b)) a') → V_X2_passDay R 60 [(0, kR 186), (1, kR t), (2, kI d), (3, kI (μ 191 d)), (4, kL (μ 188 (8 * d + μ 191 d) * tv μ t 5 (μ 191 d))), (6, kI a)] m := by
    refine up_ind (P := fun a => ∀ m : Mem, (∀ z : Int, z ≠ 188 → z ≠ 190 → m z = μ z) → (∀ j : Int, j < 8 * (d + 1) → m 188 j = μ 188 j) → (∀ j : Int, j ≠ d + 1 → m 190 j = μ 190 j) → m 190 (d + 1) = (μ 190 d + μ 188 (8 * d + μ 191 d) * tv μ t 5 (μ 191 d) * 12) * 12 * 12 → (∀ a' : Int, 0 ≤ a' → a' < a → m 188 (8 * (d + 1) + a') = lieS (tv μ t) (μ 191 d) (fun b => μ 188 (8 * d + b)) a') → V_X2_passDay R 60 [(0, kR 186), (1, kR t), (2, kI d), (3, kI (μ 191 d)), (4, kL (μ 188 (8 * d + μ 191 d) * tv μ t 5 (μ 191 d))), (6, kI a)] m) ?_ ?_
    · intro a a0 a1 iha m hf h8 h9 hb hh
      have e1 : m t 1 = μ t 1 := by rw [hf t (by omega) (by omega)]
      have i1 : d * 8 + a = 8 * d + a := by omega
      have i2 : a * 8 + μ 191 d = 8 * a + μ 191 d := by omega
      have i3 : (d + 1) * 8 + a = 8 * (d + 1) + a := by omega
      have em : m 187 (8 * a + μ 191 d) = mvV (tv μ t) a (μ 191 d) := by rw [hf 187 (by omega) (by omega)]; exact hmo a _ a0 a1 hx.1 hx.2
      have es : m 189 (8 * d + a) = nightV (tv μ t) (fun b => μ 188 (8 * d + b)) a * 12 := by rw [hf 189 (by omega) (by omega)]; exact hs a a0 a1
      have mb := mvV_bd (b := μ 191 d) ok hca a0 a1
      refine vc_X2_passDay_60 ht ?_
      rw [e1, i1, i2, i3, em, es]
      refine ⟨rr (by omega), rr (by omega), fun c => absurd c (by omega), fun _ => ⟨by omega, by omega, rr (by omega), by omega, vc_X2_passDay_112 ht ?_⟩⟩
      refine iha _ (fun z z0 z1 => by rw [ru_ne z0]; exact hf z z0 z1) (fun j hj => by rw [ru_eq, r1_ne (by omega)]; exact h8 j hj) (fun j hj => by rw [ru_ne (by omega)]; exact h9 j hj) (by rw [ru_ne (by omega)]; exact hb) (fun a' x0 x1 => ?_)
      rw [ru_eq]
      by_cases ha : a' = a
      · rw [ha, r1_eq]; exact (lieS_eq (by show 0 ≤ μ t 1; omega) hx.1 hx.2 a).symm
      · rw [r1_ne (by omega)]; exact hh a' x0 (by omega)
    · intro m hf h8 h9 hb hh
      have e1 : m t 1 = μ t 1 := by rw [hf t (by omega) (by omega)]
      have e10 : m 186 10 = μ 186 10 := by rw [hf 186 (by omega) (by omega)]
      refine vc_X2_passDay_60 ht ?_
      rw [e1, e10]
      refine ⟨rr (by omega), rr (by omega), fun _ => ⟨rr (by omega), rr (by omega), fun c => ?_, fun c => ?_⟩, fun c => absurd (Int.le_refl _) c⟩
      · exact hR m ⟨hh, hb, fun q => absurd q (by omega), fun j hj => ⟨h8 j hj, by rw [hf 189 (by omega) (by omega)]⟩, h9, fun z z0 _ z2 => hf z z0 z2⟩
      · have fr : ∀ z : Int, t ≤ z → z ≤ t + 9 → m z = μ z := fun z z0 z1 => hf z (by omega) (by omega)
        have etv := tv_frame fr
        refine ⟨⟨rfl, TB_frame ⟨ht, ok⟩ fr, by rw [etv]; exact hca, by rw [etv]; intro a' b' x0 x1 y0 y1; rw [hf 187 (by omega) (by omega)]; exact hmo a' b' x0 x1 y0 y1, by omega⟩, fun μ1 hq => ?_⟩
        unfold Q_X2_spreadOut at hq
        rw [etv] at hq
        obtain ⟨q1, q2, q3⟩ := hq
        have q8 := q3 188 (by omega)
        refine hR μ1 ⟨fun a' x0 x1 => by rw [q8]; exact hh a' x0 x1, by rw [q3 190 (by omega)]; exact hb, fun _ a' x0 x1 => by rw [q1 a' x0 x1, q8], fun j hj => ⟨by rw [q8]; exact h8 j hj, by rw [q2 j (Or.inl (by omega)), hf 189 (by omega) (by omega)]⟩, fun j hj => by rw [q3 190 (by omega)]; exact h9 j hj, fun z z0 z1 z2 => by rw [q3 z z1]; exact hf z z0 z2⟩
  exact pa 0 (by omega) (by omega) _ (fun z _ z1 => ru_ne z1) (fun j hj => by rw [ru_ne (by omega)]) (fun j hj => by rw [ru_eq, r1_ne hj]) (by rw [ru_eq, r1_eq]) (fun a' x0 x1 => absurd x0 (by omega))
theorem ct_X2_passDay : Ct mX2_passDay 1 26 0 0 (nrmS S_X2_passDay) := by
  refine ct_vm (own := RX2) (by decide +kernel) rfl ?_ ?_
  · intro as μ Q hS
    unfold S_X2_passDay at hS
    split at hS
    · exact Nat.le_of_ble_eq_true rfl
    · exact hS.elim
  · intro as μ R hS
    unfold S_X2_passDay at hS
    split at hS
    · exact body_X2_passDay hS.1 hS.2
    · exact hS.elim
/-- the last day's best place, if it betters m: how much is caught then, and where -/
def jV (v : TV) (L : Int → Int) (fb m : Int) (n : Int) : Int × Int := fold (fun x a => if x.1 < fb + L a * v 5 a * 12 then (fb + L a * v 5 a * 12, a) else x) (m, -1) n
theorem jV_s {v : TV} {L : Int → Int} {fb m n : Int} (h : 0 ≤ n) : jV v L fb m (n + 1) = if (jV v L fb m n).1 < fb + L n * v 5 n * 12 then (fb + L n * v 5 n * 12, n) else jV v L fb m n := fold_s h
def P_X2_judgeLastDay (o t : Int) (μ : Mem) : Prop := o = 186 ∧ TB μ t ∧ (1 ≤ μ 186 10 ∧ μ 186 10 ≤ 5) ∧ (∀ a : Int, 0 ≤ a → a < tv μ t 0 0 → 0 ≤ μ 188 (8 * (μ 186 10 - 1) + a) ∧ μ 188 (8 * (μ 186 10 - 1) + a) ≤ 1000000000000000) ∧ (0 ≤ μ 190 (μ 186 10 - 1) ∧ μ 190 (μ 186 10 - 1) ≤ 100000000000000000) ∧ (-1 ≤ μ 186 8 ∧ μ 186 8 ≤ 1000000000000000000)
def Q_X2_judgeLastDay (_ t : Int) (μ μ' : Mem) : Prop := (∀ j : Int, j ≠ 8 → μ' 186 j = μ 186 j) ∧
  μ' 186 8 = (jV (tv μ t) (fun a => μ 188 (8 * (μ 186 10 - 1) + a)) (μ 190 (μ 186 10 - 1)) (μ 186 8) (tv μ t 0 0)).1 ∧
  ((jV (tv μ t) (fun a => μ 188 (8 * (μ 186 10 - 1) + a)) (μ 190 (μ 186 10 - 1)) (μ 186 8) (tv μ t 0 0)).2 < 0 → μ' 192 = μ 192) ∧
  (0 ≤ (jV (tv μ t) (fun a => μ 188 (8 * (μ 186 10 - 1) + a)) (μ 190 (μ 186 10 - 1)) (μ 186 8) (tv μ t 0 0)).2 → ∀ j : Int, 0 ≤ j → j < μ 186 10 → μ' 192 j = if j = μ 186 10 - 1 then (jV (tv μ t) (fun a => μ 188 (8 * (μ 186 10 - 1) + a)) (μ 190 (μ 186 10 - 1)) (μ 186 8) (tv μ t 0 0)).2 else μ 191 j) ∧
  (∀ j : Int, j ≠ μ 186 10 - 1 → μ' 191 j = μ 191 j) ∧ ∀ z : Int, z ≠ 186 → z ≠ 191 → z ≠ 192 → μ' z = μ z
def S_X2_judgeLastDay : S0t := fun as μ Q => match as with
  | [(2, x0), (2, x1)] => P_X2_judgeLastDay x0 x1 μ ∧ ∀ (μ' : Mem) , Q_X2_judgeLastDay x0 x1 μ μ'  → Q μ' none
  | _ => False
theorem mono_X2_judgeLastDay : Mono S_X2_judgeLastDay := by
  intro as μ Q Q' h hS
  unfold S_X2_judgeLastDay at hS ⊢
  split at hS
  · exact ⟨hS.1, fun μ' q => h _ _ (hS.2 _ q)⟩
  · exact hS.elim
def iX2_judgeLastDay : Inf := (kX2_judgeLastDay, fTX2, pTX2, cTX2, lTX2, sTX2, [(100, 2, 0, 0, S_copy)])
theorem ok_X2_judgeLastDay : infOK iX2_judgeLastDay mX2_judgeLastDay RX2 1 60 := ⟨kkX2_judgeLastDay, fTX2_ok, pTX2_ok _, cTX2_ok, lTX2_ok, sTX2_ok, c_cons ⟨by decide, AC_X2_100, AC1, AC2, AC3, by decide, by decide⟩ (c_nil)⟩
theorem mt_X2_judgeLastDay : mtOK [] RX2 1 60 := mt_nil
abbrev V_X2_judgeLastDay (R : Mem → Option AV → Prop) (pc : Nat) (lc : List (Nat × AV)) (μ : Mem) : Prop := VM mX2_judgeLastDay RX2 1 60 R pc lc [] μ
set_option maxRecDepth 20000 in
theorem vc_X2_judgeLastDay_0 {R : Mem → Option AV → Prop} {t : Int} {μ : Mem} (ht : isT t) (H : V_X2_judgeLastDay R 9 [(0, kR 186), (1, kR t), (2, kI ((μ 186 10) - 1)), (3, kI 0)] μ) : V_X2_judgeLastDay R 0 [(0, kR 186), (1, kR t)] μ := by
  refine vm_step2 mt_X2_judgeLastDay ok_X2_judgeLastDay [(9, [0, 1, 2, 3]), (76, [0, 1, 2, 3]), (83, [0, 1, 2, 3]), (100, [0, 1, 2, 3])] 1000 ?_
  show isC 186 2 ∧ V_X2_judgeLastDay R 9 [(0, kR 186), (1, kR t), (2, kI ((μ 186 10) - 1)), (3, kI 0)] μ
  exact ⟨c_186, H⟩
set_option maxRecDepth 20000 in
theorem vc_X2_judgeLastDay_9 {R : Mem → Option AV → Prop} {d a t : Int} {μ : Mem} (ht : isT t) (H : r32 a ∧ r32 (μ t 1) ∧ (((μ t 1) ≤ a) → R μ none) ∧ (¬ ((μ t 1) ≤ a) → (0 ≤ ((d * 8) + a) ∧ ((d * 8) + a) < 40) ∧ (0 ≤ a ∧ a < 8) ∧ r32 (μ (t + 4) a) ∧ (0 ≤ d ∧ d < 5) ∧ r64 ((μ 190 d) + (((μ 188 ((d * 8) + a)) * (μ (t + 4) a)) * 12)) ∧ r64 (μ 186 8) ∧ ((((μ 190 d) + (((μ 188 ((d * 8) + a)) * (μ (t + 4) a)) * 12)) ≤ (μ 186 8)) → V_X2_judgeLastDay R 100 [(0, kR 186), (1, kR t), (2, kI d), (3, kI a)] μ) ∧ (¬ (((μ 190 d) + (((μ 188 ((d * 8) + a)) * (μ (t + 4) a)) * 12)) ≤ (μ 186 8)) → (0 ≤ d ∧ d < 5) ∧ V_X2_judgeLastDay R 76 [(0, kR 186), (1, kR t), (2, kI d), (3, kI a)] (updm μ 186 8 ((μ 190 d) + (((μ 188 ((d * 8) + a)) * (μ (t + 4) a)) * 12)))))) : V_X2_judgeLastDay R 9 [(0, kR 186), (1, kR t), (2, kI d), (3, kI a)] μ := by
  refine vm_step2 mt_X2_judgeLastDay ok_X2_judgeLastDay [(9, [0, 1, 2, 3]), (76, [0, 1, 2, 3]), (83, [0, 1, 2, 3]), (100, [0, 1, 2, 3])] 1000 ?_
  show isC t 7 ∧ (r32 a ∧ r32 (μ t 1)) ∧ (((μ t 1) ≤ a) → R μ none) ∧ (¬ ((μ t 1) ≤ a) → isC 186 2 ∧ inA 188 1 ((d * 8) + a) ∧ isC t 7 ∧ inA (t + 4) 0 a ∧ r32 (μ (t + 4) a) ∧ isC 186 2 ∧ inA 190 1 d ∧ isC 186 2 ∧ (r64 ((μ 190 d) + (((μ 188 ((d * 8) + a)) * (μ (t + 4) a)) * 12)) ∧ r64 (μ 186 8)) ∧ r32 (lcm3 ((μ 190 d) + (((μ 188 ((d * 8) + a)) * (μ (t + 4) a)) * 12)) (μ 186 8)) ∧ ((lcm3 ((μ 190 d) + (((μ 188 ((d * 8) + a)) * (μ (t + 4) a)) * 12)) (μ 186 8) ≤ 0) → V_X2_judgeLastDay R 100 [(0, kR 186), (1, kR t), (2, kI d), (3, kI a)] μ) ∧ (¬ (lcm3 ((μ 190 d) + (((μ 188 ((d * 8) + a)) * (μ (t + 4) a)) * 12)) (μ 186 8) ≤ 0) → isC 186 2 ∧ inA 190 1 d ∧ isC 186 2 ∧ 1 = 1 ∧ True ∧ V_X2_judgeLastDay R 76 [(0, kR 186), (1, kR t), (2, kI d), (3, kI a)] (updm μ 186 8 ((μ 190 d) + (((μ 188 ((d * 8) + a)) * (μ (t + 4) a)) * 12)))))
  exact ⟨isT_C ht, ⟨⟨H.1, H.2.1⟩, fun hc2 => (H.2.2.1 hc2), fun hc2 => ⟨c_186, ⟨isArr.in a_188 (H.2.2.2 hc2).1.1 (H.2.2.2 hc2).1.2, ⟨isT_C ht, ⟨isArr.in (T_dog ht) (H.2.2.2 hc2).2.1.1 (H.2.2.2 hc2).2.1.2, ⟨(H.2.2.2 hc2).2.2.1, ⟨c_186, ⟨isArr.in a_190 (H.2.2.2 hc2).2.2.2.1.1 (H.2.2.2 hc2).2.2.2.1.2, ⟨c_186, ⟨⟨(H.2.2.2 hc2).2.2.2.2.1, (H.2.2.2 hc2).2.2.2.2.2.1⟩, lcm3_r _ _, fun hc1 => ((H.2.2.2 hc2).2.2.2.2.2.2.1 (lcm_le.mp hc1)), fun hc1 => ⟨c_186, ⟨isArr.in a_190 ((H.2.2.2 hc2).2.2.2.2.2.2.2 (fun q => hc1 (lcm_le.mpr q))).1.1 ((H.2.2.2 hc2).2.2.2.2.2.2.2 (fun q => hc1 (lcm_le.mpr q))).1.2, ⟨c_186, rfl, trivial, ((H.2.2.2 hc2).2.2.2.2.2.2.2 (fun q => hc1 (lcm_le.mpr q))).2⟩⟩⟩⟩⟩⟩⟩⟩⟩⟩⟩⟩⟩⟩
set_option maxRecDepth 20000 in
theorem vc_X2_judgeLastDay_76 {R : Mem → Option AV → Prop} {d a t : Int} {μ : Mem} (ht : isT t) (H : (0 ≤ d ∧ d < 5) ∧ V_X2_judgeLastDay R 83 [(0, kR 186), (1, kR t), (2, kI d), (3, kI a)] (updm μ 191 d a)) : V_X2_judgeLastDay R 76 [(0, kR 186), (1, kR t), (2, kI d), (3, kI a)] μ := by
  refine vm_step2 mt_X2_judgeLastDay ok_X2_judgeLastDay [(9, [0, 1, 2, 3]), (76, [0, 1, 2, 3]), (83, [0, 1, 2, 3]), (100, [0, 1, 2, 3])] 1000 ?_
  show isC 186 2 ∧ inA 191 0 d ∧ V_X2_judgeLastDay R 83 [(0, kR 186), (1, kR t), (2, kI d), (3, kI a)] (updm μ 191 d a)
  exact ⟨c_186, ⟨isArr.in a_191 H.1.1 H.1.2, H.2⟩⟩
set_option maxRecDepth 20000 in
theorem vc_X2_judgeLastDay_83 {R : Mem → Option AV → Prop} {d a t : Int} {μ : Mem} (ht : isT t) (H : (0 ≤ (μ 186 10) ∧ (μ 186 10) ≤ 5) ∧ V_X2_judgeLastDay R 100 [(0, kR 186), (1, kR t), (2, kI d), (3, kI a)] (seto μ 192 (cpy0 (μ 191) (μ 192) (μ 186 10)))) : V_X2_judgeLastDay R 83 [(0, kR 186), (1, kR t), (2, kI d), (3, kI a)] μ := by
  refine vm_step2 mt_X2_judgeLastDay ok_X2_judgeLastDay [(9, [0, 1, 2, 3]), (76, [0, 1, 2, 3]), (83, [0, 1, 2, 3]), (100, [0, 1, 2, 3])] 1000 ?_
  show isC 186 2 ∧ isC 186 2 ∧ isC 186 2 ∧ ((0 : Int) = 0 ∧ (0 : Int) = 0) ∧ ((0 ≤ (191 : Int) ∧ (191 : Int) < 232) ∧ (LAY (191 : Int).toNat).1 = 0) ∧ ((0 ≤ (192 : Int) ∧ (192 : Int) < 232) ∧ (LAY (192 : Int).toNat).1 = 0) ∧ (0 ≤ (μ 186 10) ∧ (μ 186 10) ≤ ((LAY (191 : Int).toNat).2 : Int) ∧ (μ 186 10) ≤ ((LAY (192 : Int).toNat).2 : Int)) ∧ (0 = 2 → ∀ j : Int, 0 ≤ j → j < (μ 186 10) → -128 ≤ μ 191 j ∧ μ 191 j ≤ 127) ∧ V_X2_judgeLastDay R 100 [(0, kR 186), (1, kR t), (2, kI d), (3, kI a)] (seto μ 192 (cpy0 (μ 191) (μ 192) (μ 186 10)))
  exact ⟨c_186, ⟨c_186, ⟨c_186, ⟨⟨rfl, rfl⟩, ⟨a_191.1, a_191.k1⟩, ⟨a_192.1, a_192.k1⟩, cpl a_191 a_192 (H.1 : 0 ≤ (μ 186 10) ∧ (μ 186 10) ≤ 5) (by decide) (by decide), fun q => absurd q (by decide), H.2⟩⟩⟩⟩
set_option maxRecDepth 20000 in
theorem vc_X2_judgeLastDay_100 {R : Mem → Option AV → Prop} {d a t : Int} {μ : Mem} (ht : isT t) (H : V_X2_judgeLastDay R 9 [(0, kR 186), (1, kR t), (2, kI d), (3, kI (a + 1))] μ) : V_X2_judgeLastDay R 100 [(0, kR 186), (1, kR t), (2, kI d), (3, kI a)] μ := by
  refine vm_step2 mt_X2_judgeLastDay ok_X2_judgeLastDay [(9, [0, 1, 2, 3]), (76, [0, 1, 2, 3]), (83, [0, 1, 2, 3]), (100, [0, 1, 2, 3])] 1000 ?_
  show V_X2_judgeLastDay R 9 [(0, kR 186), (1, kR t), (2, kI d), (3, kI (a + 1))] μ
  exact H
theorem body_X2_judgeLastDay {o t : Int} {μ : Mem} {R : Mem → Option AV → Prop} (h : P_X2_judgeLastDay o t μ) (hR : ∀ μ' : Mem, Q_X2_judgeLastDay o t μ μ' → R μ' none) : V_X2_judgeLastDay R 0 [(0, kR o), (1, kR t)] μ := by
  obtain ⟨rfl, ⟨ht, ok⟩, hk, hl, hb, hm⟩ := h
  have hp : 2 ≤ μ t 1 ∧ μ t 1 ≤ 8 := ok.1
  have hT := isT_hi ht
  refine vc_X2_judgeLastDay_0 ht ?_
  unfold Q_X2_judgeLastDay at hR
  generalize hL : (fun a => μ 188 (8 * (μ 186 10 - 1) + a)) = L at hR
  have hLa : ∀ a : Int, μ 188 (8 * (μ 186 10 - 1) + a) = L a := fun a => by rw [← hL]
  simp only [hLa] at hl
  generalize hfb : μ 190 (μ 186 10 - 1) = fb at hR hb
  let J : Int → Int × Int := jV (tv μ t) L fb (μ 186 8)
  have pa : ∀ a : Int, 0 ≤ a → a ≤ μ t 1 → ∀ m : Mem, (∀ z : Int, z ≠ 186 → z ≠ 191 → z ≠ 192 → m z = μ z) → (∀ j : Int, j ≠ 8 → m 186 j = μ 186 j) → m 186 8 = (J a).1 → (-1 ≤ (J a).1 ∧ (J a).1 ≤ 1000000000000000000) → ((J a).2 < 0 → m 192 = μ 192) → (0 ≤ (J a).2 → ∀ j : Int, 0 ≤ j → j < μ 186 10 → m 192 j = if j = μ 186 10 - 1 then (J a).2 else μ 191 j) → (∀ j : Int, j ≠ μ 186 10 - 1 → m 191 j = μ 191 j) → V_X2_judgeLastDay R 9 [(0, kR 186), (1, kR t), (2, kI (μ 186 10 - 1)), (3, kI a)] m := by
    refine up_ind (P := fun a => ∀ m : Mem, (∀ z : Int, z ≠ 186 → z ≠ 191 → z ≠ 192 → m z = μ z) → (∀ j : Int, j ≠ 8 → m 186 j = μ 186 j) → m 186 8 = (J a).1 → (-1 ≤ (J a).1 ∧ (J a).1 ≤ 1000000000000000000) → ((J a).2 < 0 → m 192 = μ 192) → (0 ≤ (J a).2 → ∀ j : Int, 0 ≤ j → j < μ 186 10 → m 192 j = if j = μ 186 10 - 1 then (J a).2 else μ 191 j) → (∀ j : Int, j ≠ μ 186 10 - 1 → m 191 j = μ 191 j) → V_X2_judgeLastDay R 9 [(0, kR 186), (1, kR t), (2, kI (μ 186 10 - 1)), (3, kI a)] m) ?_ ?_
    · intro a a0 a1 iha m hf h6 h8 hbd hn hy h1
      have es : J (a + 1) = if (J a).1 < fb + L a * tv μ t 5 a * 12 then (fb + L a * tv μ t 5 a * 12, a) else J a := jV_s a0
      rw [es] at iha
      have e1 : m t 1 = μ t 1 := by rw [hf t (by omega) (by omega) (by omega)]
      have e5' : m (t + 4) a = tv μ t 5 a := by rw [hf (t + 4) (by omega) (by omega) (by omega)]; exact e5 μ t a0 (by omega)
      have i1 : (μ 186 10 - 1) * 8 + a = 8 * (μ 186 10 - 1) + a := by omega
      have e188 : m 188 (8 * (μ 186 10 - 1) + a) = L a := by rw [hf 188 (by omega) (by omega) (by omega), hLa]
      have e190 : m 190 (μ 186 10 - 1) = fb := by rw [hf 190 (by omega) (by omega) (by omega), hfb]
      have hd5 := (ok.2.2.2.1 a a0 (by omega)).2.1
      have hla := hl a a0 a1
      have hmb := mul_bd (B := 12) hla.1 hla.2 (show 0 ≤ tv μ t 5 a by omega) hd5.2
      refine vc_X2_judgeLastDay_9 ht ?_
      rw [e1, i1, e5', e188, e190, h8]
      refine ⟨rr (by omega), rr (by omega), fun c => absurd c (by omega), fun _ => ⟨by omega, by omega, rr (by omega), by omega, rl (by omega), rl (by omega), fun c => ?_, fun c => ?_⟩⟩
      · rw [if_neg (by omega)] at iha
        exact vc_X2_judgeLastDay_100 ht (iha m hf h6 h8 hbd hn hy h1)
      · rw [if_pos (by omega)] at iha
        refine ⟨by omega, vc_X2_judgeLastDay_76 ht ⟨by omega, vc_X2_judgeLastDay_83 ht ?_⟩⟩
        simp (disch := omega) only [ru_ne, ru_eq, r1_ne, h6]
        refine ⟨by omega, vc_X2_judgeLastDay_100 ht (iha _ (fun z z0 z1 z2 => by rw [rs_ne z2, ru_ne z1, ru_ne z0]; exact hf z z0 z1 z2) (fun j hj => by rw [rs_ne (by omega), ru_ne (by omega), ru_eq, r1_ne hj]; exact h6 j hj) (by rw [rs_ne (by omega), ru_ne (by omega), ru_eq, r1_eq]) ⟨by show -1 ≤ fb + L a * tv μ t 5 a * 12; omega, by show fb + L a * tv μ t 5 a * 12 ≤ 1000000000000000000; omega⟩ (fun q => absurd (show a < 0 from q) (by omega)) (fun _ j j0 j1 => ?_) (fun j hj => ?_))⟩
        · rw [rs_eq, cpy_in j0 j1]
          by_cases hj : j = μ 186 10 - 1
          · rw [if_pos hj, hj, r1_eq]
          · rw [if_neg hj, r1_ne hj]; exact h1 j hj
        · rw [rs_ne (by omega), ru_eq, r1_ne hj, ru_ne (by omega)]; exact h1 j hj
    · intro m hf h6 h8 hbd hn hy h1
      have e1 : m t 1 = μ t 1 := by rw [hf t (by omega) (by omega) (by omega)]
      refine vc_X2_judgeLastDay_9 ht ?_
      rw [e1]
      exact ⟨rr (by omega), rr (by omega), fun _ => hR m ⟨h6, h8, hn, hy, h1, hf⟩, fun c => absurd (Int.le_refl _) c⟩
  exact pa 0 (by omega) (by omega) μ (fun _ _ _ _ => rfl) (fun _ _ => rfl) rfl hm (fun _ => rfl) (fun q => absurd (show (0 : Int) ≤ -1 from q) (by omega)) (fun _ _ => rfl)
theorem ct_X2_judgeLastDay : Ct mX2_judgeLastDay 1 60 0 0 (nrmS S_X2_judgeLastDay) := by
  refine ct_vm (own := RX2) (by decide +kernel) rfl ?_ ?_
  · intro as μ Q hS
    unfold S_X2_judgeLastDay at hS
    split at hS
    · exact Nat.le_of_ble_eq_true rfl
    · exact hS.elim
  · intro as μ R hS
    unfold S_X2_judgeLastDay at hS
    split at hS
    · exact body_X2_judgeLastDay hS.1 hS.2
    · exact hS.elim
def P_X2_turnRow (o t : Int) (μ : Mem) : Prop := o = 186 ∧ TB μ t ∧ (1 ≤ μ 186 10 ∧ μ 186 10 ≤ 5) ∧ ∀ j : Int, 0 ≤ j → j < μ 186 10 - 1 → 0 ≤ μ 191 j ∧ μ 191 j < tv μ t 0 0
def Q_X2_turnRow (_ t : Int) (μ μ' : Mem) (r : Int) : Prop := ((r = -1 ∧ ∀ j : Int, 0 ≤ j → j < μ 186 10 - 1 → μ 191 j = tv μ t 0 0 - 1 ∧ μ' 191 j = 0) ∨
  ((0 ≤ r ∧ r < μ 186 10 - 1) ∧ μ 191 r < tv μ t 0 0 - 1 ∧ μ' 191 r = μ 191 r + 1 ∧ (∀ j : Int, r < j → j < μ 186 10 - 1 → μ 191 j = tv μ t 0 0 - 1 ∧ μ' 191 j = 0) ∧ ∀ j : Int, j < r → μ' 191 j = μ 191 j)) ∧
  ∀ z : Int, z ≠ 191 → μ' z = μ z
def S_X2_turnRow : S0t := fun as μ Q => match as with
  | [(2, x0), (2, x1)] => P_X2_turnRow x0 x1 μ ∧ ∀ (μ' : Mem) (r : Int), Q_X2_turnRow x0 x1 μ μ' r → Q μ' (some (kI r))
  | _ => False
theorem mono_X2_turnRow : Mono S_X2_turnRow := by
  intro as μ Q Q' h hS
  unfold S_X2_turnRow at hS ⊢
  split at hS
  · exact ⟨hS.1, fun μ' r q => h _ _ (hS.2 _ _ q)⟩
  · exact hS.elim
def iX2_turnRow : Inf := (kX2_turnRow, fTX2, pTX2, cTX2, lTX2, sTX2, [])
theorem ok_X2_turnRow : infOK iX2_turnRow mX2_turnRow RX2 0 0 := ⟨kkX2_turnRow, fTX2_ok, pTX2_ok _, cTX2_ok, lTX2_ok, sTX2_ok, c_nil⟩
theorem mt_X2_turnRow : mtOK [] RX2 0 0 := mt_nil
abbrev V_X2_turnRow (R : Mem → Option AV → Prop) (pc : Nat) (lc : List (Nat × AV)) (μ : Mem) : Prop := VM mX2_turnRow RX2 0 0 R pc lc [] μ
set_option maxRecDepth 20000 in
theorem vc_X2_turnRow_0 {R : Mem → Option AV → Prop} {t : Int} {μ : Mem} (ht : isT t) (H : V_X2_turnRow R 7 [(0, kR 186), (1, kR t), (2, kI ((μ 186 10) - 2))] μ) : V_X2_turnRow R 0 [(0, kR 186), (1, kR t)] μ := by
  refine vm_step2 mt_X2_turnRow ok_X2_turnRow [(7, [0, 1, 2]), (21, [0, 1, 2]), (43, [0, 1, 2])] 1000 ?_
  show isC 186 2 ∧ V_X2_turnRow R 7 [(0, kR 186), (1, kR t), (2, kI ((μ 186 10) - 2))] μ
  exact ⟨c_186, H⟩
set_option maxRecDepth 20000 in
theorem vc_X2_turnRow_7 {R : Mem → Option AV → Prop} {d t : Int} {μ : Mem} (ht : isT t) (H : r32 d ∧ ((d < 0) → R μ (some (kI (-1)))) ∧ (¬ (d < 0) → (0 ≤ d ∧ d < 5) ∧ (0 ≤ d ∧ d < 5) ∧ V_X2_turnRow R 21 [(0, kR 186), (1, kR t), (2, kI d)] (updm μ 191 d ((μ 191 d) + 1)))) : V_X2_turnRow R 7 [(0, kR 186), (1, kR t), (2, kI d)] μ := by
  refine vm_step2 mt_X2_turnRow ok_X2_turnRow [(7, [0, 1, 2]), (21, [0, 1, 2]), (43, [0, 1, 2])] 1000 ?_
  show r32 d ∧ ((d < 0) → R μ (some (kI (-1)))) ∧ (¬ (d < 0) → isC 186 2 ∧ inA 191 0 d ∧ inA 191 0 d ∧ V_X2_turnRow R 21 [(0, kR 186), (1, kR t), (2, kI d)] (updm μ 191 d ((μ 191 d) + 1)))
  exact ⟨H.1, fun hc1 => (H.2.1 hc1), fun hc1 => ⟨c_186, ⟨isArr.in a_191 (H.2.2 hc1).1.1 (H.2.2 hc1).1.2, ⟨isArr.in a_191 (H.2.2 hc1).2.1.1 (H.2.2 hc1).2.1.2, (H.2.2 hc1).2.2⟩⟩⟩⟩
set_option maxRecDepth 20000 in
theorem vc_X2_turnRow_21 {R : Mem → Option AV → Prop} {d t : Int} {μ : Mem} (ht : isT t) (H : (0 ≤ d ∧ d < 5) ∧ r32 (μ 191 d) ∧ r32 (μ t 1) ∧ (((μ t 1) ≤ (μ 191 d)) → (0 ≤ d ∧ d < 5) ∧ V_X2_turnRow R 43 [(0, kR 186), (1, kR t), (2, kI d)] (updm μ 191 d 0)) ∧ (¬ ((μ t 1) ≤ (μ 191 d)) → R μ (some (kI d)))) : V_X2_turnRow R 21 [(0, kR 186), (1, kR t), (2, kI d)] μ := by
  refine vm_step2 mt_X2_turnRow ok_X2_turnRow [(7, [0, 1, 2]), (21, [0, 1, 2]), (43, [0, 1, 2])] 1000 ?_
  show isC 186 2 ∧ inA 191 0 d ∧ isC t 7 ∧ (r32 (μ 191 d) ∧ r32 (μ t 1)) ∧ (((μ t 1) ≤ (μ 191 d)) → isC 186 2 ∧ inA 191 0 d ∧ V_X2_turnRow R 43 [(0, kR 186), (1, kR t), (2, kI d)] (updm μ 191 d 0)) ∧ (¬ ((μ t 1) ≤ (μ 191 d)) → R μ (some (kI d)))
  exact ⟨c_186, ⟨isArr.in a_191 H.1.1 H.1.2, ⟨isT_C ht, ⟨⟨H.2.1, H.2.2.1⟩, fun hc2 => ⟨c_186, ⟨isArr.in a_191 (H.2.2.2.1 hc2).1.1 (H.2.2.2.1 hc2).1.2, (H.2.2.2.1 hc2).2⟩⟩, fun hc2 => (H.2.2.2.2 hc2)⟩⟩⟩⟩
set_option maxRecDepth 20000 in
theorem vc_X2_turnRow_43 {R : Mem → Option AV → Prop} {d t : Int} {μ : Mem} (ht : isT t) (H : V_X2_turnRow R 7 [(0, kR 186), (1, kR t), (2, kI (d + (-1)))] μ) : V_X2_turnRow R 43 [(0, kR 186), (1, kR t), (2, kI d)] μ := by
  refine vm_step2 mt_X2_turnRow ok_X2_turnRow [(7, [0, 1, 2]), (21, [0, 1, 2]), (43, [0, 1, 2])] 1000 ?_
  show V_X2_turnRow R 7 [(0, kR 186), (1, kR t), (2, kI (d + (-1)))] μ
  exact H
theorem body_X2_turnRow {o t : Int} {μ : Mem} {R : Mem → Option AV → Prop} (h : P_X2_turnRow o t μ) (hR : ∀ (μ' : Mem) (r : Int), Q_X2_turnRow o t μ μ' r → R μ' (some (kI r))) : V_X2_turnRow R 0 [(0, kR o), (1, kR t)] μ := by
  obtain ⟨rfl, ⟨ht, ok⟩, hk, hr⟩ := h
  have hp : 2 ≤ μ t 1 ∧ μ t 1 ≤ 8 := ok.1
  have hpe : tv μ t 0 0 = μ t 1 := rfl
  have hT := isT_hi ht
  refine vc_X2_turnRow_0 ht ?_
  have pa : ∀ d : Int, -1 ≤ d → d ≤ μ 186 10 - 2 → ∀ m : Mem, (∀ z : Int, z ≠ 191 → m z = μ z) → (∀ j : Int, j ≤ d → m 191 j = μ 191 j) → (∀ j : Int, d < j → j < μ 186 10 - 1 → μ 191 j = tv μ t 0 0 - 1 ∧ m 191 j = 0) → V_X2_turnRow R 7 [(0, kR 186), (1, kR t), (2, kI d)] m := by
    refine dn_ind (P := fun d => ∀ m : Mem, (∀ z : Int, z ≠ 191 → m z = μ z) → (∀ j : Int, j ≤ d → m 191 j = μ 191 j) → (∀ j : Int, d < j → j < μ 186 10 - 1 → μ 191 j = tv μ t 0 0 - 1 ∧ m 191 j = 0) → V_X2_turnRow R 7 [(0, kR 186), (1, kR t), (2, kI d)] m) ?_ ?_
    · intro d d0 d1 ihd m hf h1 h2
      have e1 : m t 1 = μ t 1 := by rw [hf t (by omega)]
      have hd := hr d (by omega) (by omega)
      rw [hpe] at hd
      refine vc_X2_turnRow_7 ht ⟨rr (by omega), fun c => absurd c (by omega), fun _ => ⟨by omega, by omega, vc_X2_turnRow_21 ht ?_⟩⟩
      simp (disch := omega) only [ru_ne, ru_eq, r1_eq, e1, h1 d (Int.le_refl _)]
      refine ⟨by omega, rr (by omega), rr (by omega), fun c => ⟨by omega, vc_X2_turnRow_43 ht ?_⟩, fun c => ?_⟩
      · rw [updm_2]
        refine ihd _ (fun z z0 => by rw [ru_ne z0]; exact hf z z0) (fun j hj => by rw [ru_eq, r1_ne (by omega)]; exact h1 j (by omega)) (fun j hj j1 => ?_)
        rw [ru_eq]
        by_cases hjd : j = d
        · rw [hjd, r1_eq]; exact ⟨by omega, rfl⟩
        · rw [r1_ne hjd]; exact h2 j (by omega) j1
      · refine hR _ _ ⟨Or.inr ⟨by omega, by omega, by rw [ru_eq, r1_eq], fun j hj j1 => ?_, fun j hj => ?_⟩, fun z z0 => by rw [ru_ne z0]; exact hf z z0⟩
        · rw [ru_eq, r1_ne (by omega)]; exact h2 j hj j1
        · rw [ru_eq, r1_ne (by omega)]; exact h1 j (by omega)
    · intro m hf h1 h2
      exact vc_X2_turnRow_7 ht ⟨rr (by omega), fun _ => hR m _ ⟨Or.inl ⟨rfl, fun j j0 j1 => h2 j (by omega) j1⟩, hf⟩, fun c => absurd (show (-1 : Int) < 0 by omega) c⟩
  exact pa _ (by omega) (Int.le_refl _) μ (fun _ _ => rfl) (fun _ _ => rfl) (fun j j0 j1 => absurd j1 (by omega))
theorem ct_X2_turnRow : Ct mX2_turnRow 0 0 0 0 (nrmS S_X2_turnRow) := by
  refine ct_vm (own := RX2) (by decide +kernel) rfl ?_ ?_
  · intro as μ Q hS
    unfold S_X2_turnRow at hS
    split at hS
    · exact Nat.le_of_ble_eq_true rfl
    · exact hS.elim
  · intro as μ R hS
    unfold S_X2_turnRow at hS
    split at hS
    · exact body_X2_turnRow hS.1 hS.2
    · exact hS.elim
