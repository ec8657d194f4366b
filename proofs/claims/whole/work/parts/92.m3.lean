/-! the model: what a call changes of one town -/
theorem tmF_frame {f g : Int → Int} {b : Int} (ok : TVok (tmF f b)) (h : ∀ j : Int, b ≤ j → j < b + 260 → g j = f j) : tmF g b = tmF f b := by
  have w8 : 0 ≤ f (b + 4) ∧ f (b + 4) ≤ 8 := ok.2.2.2.2.2.2.2.1
  have dd : 0 ≤ f (b + 250) ∧ f (b + 250) ≤ 7 := ok.2.2.2.2.2.2.2.2.2.1
  have ws := ok.2.2.2.2.2.2.2.2.1
  have cc : ∀ (N : Int) (p q : Int → Int), (∀ j : Int, 0 ≤ j → j < N → p j = q j) → clip N p = clip N q := fun N p q e => by
    funext j
    unfold clip
    by_cases c : 0 ≤ j ∧ j < N
    · rw [if_pos c, if_pos c]; exact e j c.1 c.2
    · rw [if_neg c, if_neg c]
  funext k
  match k with
  | 0 => show (fun _ => g b) = (fun _ => f b); rw [h b (by omega) (by omega)]
  | 1 => show (fun _ => g (b + 1)) = (fun _ => f (b + 1)); rw [h _ (by omega) (by omega)]
  | 2 => show (fun _ => g (b + 2)) = (fun _ => f (b + 2)); rw [h _ (by omega) (by omega)]
  | 3 => show (fun _ => g (b + 3)) = (fun _ => f (b + 3)); rw [h _ (by omega) (by omega)]
  | 4 => exact cc 8 _ _ fun j j0 j1 => h _ (by omega) (by omega)
  | 5 => exact cc 8 _ _ fun j j0 j1 => h _ (by omega) (by omega)
  | 6 => exact cc 8 _ _ fun j j0 j1 => h _ (by omega) (by omega)
  | 7 => exact cc 64 _ _ fun j j0 j1 => h _ (by omega) (by omega)
  | 8 => show (fun _ => g (b + 4)) = (fun _ => f (b + 4)); rw [h _ (by omega) (by omega)]
  | 9 => show clip (g (b + 4)) (fun w => g (b + 104 + 18 * w)) = clip (f (b + 4)) (fun w => f (b + 104 + 18 * w)); rw [h (b + 4) (by omega) (by omega)]; exact cc _ _ _ fun j j0 j1 => h _ (by omega) (by omega)
  | 10 => show clip (g (b + 4)) (fun w => g (b + 105 + 18 * w)) = clip (f (b + 4)) (fun w => f (b + 105 + 18 * w)); rw [h (b + 4) (by omega) (by omega)]; exact cc _ _ _ fun j j0 j1 => h _ (by omega) (by omega)
  | 11 =>
    funext j
    show (if 0 ≤ j ∧ j / 16 < g (b + 4) ∧ j % 16 < g (b + 104 + 18 * (j / 16)) then g (b + 106 + 18 * (j / 16) + j % 16) else 0) = if 0 ≤ j ∧ j / 16 < f (b + 4) ∧ j % 16 < f (b + 104 + 18 * (j / 16)) then f (b + 106 + 18 * (j / 16) + j % 16) else 0
    rw [h (b + 4) (by omega) (by omega)]
    by_cases c : 0 ≤ j ∧ j / 16 < f (b + 4)
    · rw [h (b + 104 + 18 * (j / 16)) (by omega) (by omega), h (b + 106 + 18 * (j / 16) + j % 16) (by omega) (by omega)]
    · rw [if_neg (fun q => c ⟨q.1, q.2.1⟩), if_neg (fun q => c ⟨q.1, q.2.1⟩)]
  | 12 => show (fun _ => g (b + 250)) = (fun _ => f (b + 250)); rw [h _ (by omega) (by omega)]
  | n + 13 => show clip (g (b + 250)) (fun i => g (b + 251 + i)) = clip (f (b + 250)) (fun i => f (b + 251 + i)); rw [h (b + 250) (by omega) (by omega)]; exact cc _ _ _ fun j j0 j1 => h _ (by omega) (by omega)
theorem tmF_up {f g : Int → Int} {b : Int} (h : ∀ j : Int, b ≤ j → g j = f j) : tmF g b = tmF f b := by
  have cc : ∀ (N : Int) (p q : Int → Int), (∀ j : Int, 0 ≤ j → j < N → p j = q j) → clip N p = clip N q := fun N p q e => by
    funext j
    unfold clip
    by_cases c : 0 ≤ j ∧ j < N
    · rw [if_pos c, if_pos c]; exact e j c.1 c.2
    · rw [if_neg c, if_neg c]
  funext k
  match k with
  | 0 => show (fun _ => g b) = (fun _ => f b); rw [h b (by omega)]
  | 1 => show (fun _ => g (b + 1)) = (fun _ => f (b + 1)); rw [h _ (by omega)]
  | 2 => show (fun _ => g (b + 2)) = (fun _ => f (b + 2)); rw [h _ (by omega)]
  | 3 => show (fun _ => g (b + 3)) = (fun _ => f (b + 3)); rw [h _ (by omega)]
  | 4 => exact cc 8 _ _ fun j j0 j1 => h _ (by omega)
  | 5 => exact cc 8 _ _ fun j j0 j1 => h _ (by omega)
  | 6 => exact cc 8 _ _ fun j j0 j1 => h _ (by omega)
  | 7 => exact cc 64 _ _ fun j j0 j1 => h _ (by omega)
  | 8 => show (fun _ => g (b + 4)) = (fun _ => f (b + 4)); rw [h _ (by omega)]
  | 9 => show clip (g (b + 4)) (fun w => g (b + 104 + 18 * w)) = clip (f (b + 4)) (fun w => f (b + 104 + 18 * w)); rw [h (b + 4) (by omega)]; exact cc _ _ _ fun j j0 j1 => h _ (by omega)
  | 10 => show clip (g (b + 4)) (fun w => g (b + 105 + 18 * w)) = clip (f (b + 4)) (fun w => f (b + 105 + 18 * w)); rw [h (b + 4) (by omega)]; exact cc _ _ _ fun j j0 j1 => h _ (by omega)
  | 11 =>
    funext j
    show (if 0 ≤ j ∧ j / 16 < g (b + 4) ∧ j % 16 < g (b + 104 + 18 * (j / 16)) then g (b + 106 + 18 * (j / 16) + j % 16) else 0) = if 0 ≤ j ∧ j / 16 < f (b + 4) ∧ j % 16 < f (b + 104 + 18 * (j / 16)) then f (b + 106 + 18 * (j / 16) + j % 16) else 0
    rw [h (b + 4) (by omega)]
    by_cases c : 0 ≤ j ∧ j / 16 < f (b + 4)
    · rw [h (b + 104 + 18 * (j / 16)) (by omega), h (b + 106 + 18 * (j / 16) + j % 16) (by omega)]
    · rw [if_neg (fun q => c ⟨q.1, q.2.1⟩), if_neg (fun q => c ⟨q.1, q.2.1⟩)]
  | 12 => show (fun _ => g (b + 250)) = (fun _ => f (b + 250)); rw [h _ (by omega)]
  | n + 13 => show clip (g (b + 250)) (fun i => g (b + 251 + i)) = clip (f (b + 250)) (fun i => f (b + 251 + i)); rw [h (b + 250) (by omega)]; exact cc _ _ _ fun j j0 j1 => h _ (by omega)
theorem wmF_up {f g : Int → Int} {q : Int} (h : ∀ j : Int, q ≤ j → g j = f j) : wmF g q = wmF f q := by
  unfold wmF
  rw [h (q + 2) (by omega), h q (by omega)]
  refine Prod.ext ?_ (Prod.ext ?_ ?_)
  · show clip (f (q + 2)) (fun j => g (q + 10 + j)) = clip (f (q + 2)) (fun j => f (q + 10 + j))
    exact clip_ext fun j j0 j1 => h _ (by omega)
  · show clip 9 (fun k => g (q + nmM k)) = clip 9 (fun k => f (q + nmM k))
    refine clip_ext fun k k0 k1 => h _ ?_
    have : 0 ≤ nmM k := by unfold nmM; split <;> (try split) <;> omega
    omega
  · funext i
    show (if 0 ≤ i ∧ i < f q then tmF g (q + 510 + 260 * i) else tv0) = if 0 ≤ i ∧ i < f q then tmF f (q + 510 + 260 * i) else tv0
    by_cases c : 0 ≤ i ∧ i < f q
    · rw [if_pos c, if_pos c]
      exact tmF_up fun j j0 => h j (by omega)
    · rw [if_neg c, if_neg c]
/-- the images lie above what is at hand -/
theorem imgs_up {μ m : Mem} (h : ∀ j : Int, 1290 ≤ j → m 202 j = μ 202 j) (h3 : m 203 = μ 203) : (stM m).2 = (stM μ).2 := by
  refine Prod.ext ?_ ?_
  · show clip 3 (m 203) = clip 3 (μ 203)
    rw [h3]
  · funext k
    show (if 0 ≤ k ∧ k < 3 ∧ m 203 k = 1 then wmF (m 202) (1290 * (k + 1)) else wv0) = if 0 ≤ k ∧ k < 3 ∧ μ 203 k = 1 then wmF (μ 202) (1290 * (k + 1)) else wv0
    rw [h3]
    by_cases c : 0 ≤ k ∧ k < 3 ∧ μ 203 k = 1
    · rw [if_pos c, if_pos c]
      exact wmF_up fun j j0 => h j (by omega)
    · rw [if_neg c, if_neg c]
theorem stM_town {μ m : Mem} {n : Int} (hs : SOk (stM μ)) (hn : 0 ≤ n ∧ n < μ 202 0) (hf : ∀ j : Int, (j < 510 + 260 * n ∨ 510 + 260 * n + 260 ≤ j) → m 202 j = μ 202 j) (h3 : m 203 = μ 203) : stM m = setT (stM μ) n (tmF (m 202) (510 + 260 * n)) := by
  have ht := hs.1.2.1
  rw [mn_3] at ht
  refine Prod.ext ?_ (imgs_up (fun j j0 => hf j (by omega)) h3)
  show wmF (m 202) 0 = ((stM μ).1.1, (stM μ).1.2.1, fun i => if i = n then tmF (m 202) (510 + 260 * n) else (stM μ).1.2.2 i)
  unfold wmF
  refine Prod.ext ?_ (Prod.ext ?_ ?_)
  · show clip (m 202 (0 + 2)) (fun j => m 202 (0 + 10 + j)) = clip (μ 202 (0 + 2)) (fun j => μ 202 (0 + 10 + j))
    have hl := hs.1.1
    rw [mn_0] at hl
    have e2 : (0 : Int) + 2 = 2 := rfl
    rw [e2, hf 2 (by omega)]
    exact clip_ext fun j j0 j1 => hf _ (by omega)
  · show clip 9 (fun k => m 202 (0 + nmM k)) = clip 9 (fun k => μ 202 (0 + nmM k))
    refine clip_ext fun k k0 k1 => hf _ ?_
    have : 0 ≤ nmM k ∧ nmM k < 9 := by unfold nmM; split <;> (try split) <;> omega
    omega
  · funext i
    show (if 0 ≤ i ∧ i < m 202 0 then tmF (m 202) (0 + 510 + 260 * i) else tv0) = if i = n then tmF (m 202) (510 + 260 * n) else if 0 ≤ i ∧ i < μ 202 0 then tmF (μ 202) (0 + 510 + 260 * i) else tv0
    rw [hf 0 (by omega)]
    by_cases e : i = n
    · rw [if_pos e, e, if_pos hn]
      rfl
    · rw [if_neg e]
      by_cases c : 0 ≤ i ∧ i < μ 202 0
      · rw [if_pos c, if_pos c]
        have vok := (hs.1.2.2.2.2.2 i c.1 (by rw [mn_3]; exact c.2)).1
        rw [mn_t μ c] at vok
        have e0 : (0 : Int) + 510 + 260 * i = 510 + 260 * i := by omega
        rw [e0]
        exact tmF_frame vok fun j j0 j1 => hf j (by omega)
      · rw [if_neg c, if_neg c]
/-- what a call of the model changes -/
def ChgM (x : STt × Int) (μ μ' : Mem) (r : Int) : Prop := stM μ' = x.1 ∧ r = x.2 ∧ ∀ z : Int, z < 201 → μ' z = μ z
theorem chm_no {μ m : Mem} {n d : Int} {p : TV → Bool} {f : TV → TV} {r : TV → Int} (hn : ¬ (0 ≤ n ∧ n < μ 202 0)) (ha : AskM μ m) : ChgM (chgT (stM μ) n d p f r) μ m d := by
  unfold chgT
  rw [if_neg (fun q => hn (by rw [mn_3] at q; exact q.1))]
  exact ⟨ha.st, rfl, fun z hz => ha z (Or.inl hz)⟩
theorem chm_p0 {μ m : Mem} {n d : Int} {p : TV → Bool} {f : TV → TV} {r : TV → Int} (hp : p ((stM μ).1.2.2 n) = false) (ha : AskM μ m) : ChgM (chgT (stM μ) n d p f r) μ m d := by
  unfold chgT
  rw [if_neg (fun q => by rw [hp] at q; exact absurd q.2 (by decide))]
  exact ⟨ha.st, rfl, fun z hz => ha z (Or.inl hz)⟩
theorem chm_yes {μ m : Mem} {n d x : Int} {p : TV → Bool} {f : TV → TV} {r : TV → Int} (hs : SOk (stM μ)) (hn : 0 ≤ n ∧ n < μ 202 0) (hp : p ((stM μ).1.2.2 n) = true) (hf : ∀ j : Int, (j < 510 + 260 * n ∨ 510 + 260 * n + 260 ≤ j) → m 202 j = μ 202 j) (h3 : m 203 = μ 203) (ho : ∀ z : Int, z < 201 → m z = μ z) (e : tmF (m 202) (510 + 260 * n) = f ((stM μ).1.2.2 n)) (hr : x = r ((stM μ).1.2.2 n)) : ChgM (chgT (stM μ) n d p f r) μ m x := by
  unfold chgT
  rw [if_pos ⟨by rw [mn_3]; exact hn, hp⟩]
  exact ⟨by rw [stM_town hs hn hf h3, e], hr, ho⟩
/-- a town of the model with other walks and another diary -/
theorem tm_set {f g : Int → Int} {b : Int} (h : ∀ j : Int, b ≤ j → j < b + 104 → j ≠ b + 4 → g j = f j) : tmF g b = setF (tmF f b) (g (b + 4)) (clip (g (b + 4)) (fun w => g (b + 104 + 18 * w))) (clip (g (b + 4)) (fun w => g (b + 105 + 18 * w))) (fun j => if 0 ≤ j ∧ j / 16 < g (b + 4) ∧ j % 16 < g (b + 104 + 18 * (j / 16)) then g (b + 106 + 18 * (j / 16) + j % 16) else 0) (g (b + 250)) (clip (g (b + 250)) (fun i => g (b + 251 + i))) := by
  have cc : ∀ (N : Int) (p q : Int → Int), (∀ j : Int, 0 ≤ j → j < N → p j = q j) → clip N p = clip N q := fun N p q e => by
    funext j
    unfold clip
    by_cases c : 0 ≤ j ∧ j < N
    · rw [if_pos c, if_pos c]; exact e j c.1 c.2
    · rw [if_neg c, if_neg c]
  funext k
  match k with
  | 0 => show (fun _ => g b) = (fun _ => f b); rw [h b (by omega) (by omega) (by omega)]
  | 1 => show (fun _ => g (b + 1)) = (fun _ => f (b + 1)); rw [h _ (by omega) (by omega) (by omega)]
  | 2 => show (fun _ => g (b + 2)) = (fun _ => f (b + 2)); rw [h _ (by omega) (by omega) (by omega)]
  | 3 => show (fun _ => g (b + 3)) = (fun _ => f (b + 3)); rw [h _ (by omega) (by omega) (by omega)]
  | 4 => exact cc 8 _ _ fun j j0 j1 => h _ (by omega) (by omega) (by omega)
  | 5 => exact cc 8 _ _ fun j j0 j1 => h _ (by omega) (by omega) (by omega)
  | 6 => exact cc 8 _ _ fun j j0 j1 => h _ (by omega) (by omega) (by omega)
  | 7 => exact cc 64 _ _ fun j j0 j1 => h _ (by omega) (by omega) (by omega)
  | 8 => rfl
  | 9 => rfl
  | 10 => rfl
  | 11 => rfl
  | 12 => rfl
  | n + 13 => rfl
theorem setF_eq {v : TV} {k8 l8 k12 l12 : Int} {c9 c10 c11 c13 d9 d10 d11 d13 : Int → Int} (h8 : k8 = l8) (h9 : c9 = d9) (h10 : c10 = d10) (h11 : c11 = d11) (h12 : k12 = l12) (h13 : c13 = d13) : setF v k8 c9 c10 c11 k12 c13 = setF v l8 d9 d10 d11 l12 d13 := by
  rw [h8, h9, h10, h11, h12, h13]
def P_X11_walk (o n : Int) (μ : Mem) : Prop := o = 201 ∧ SOk (stM μ) ∧ r32 n
def Q_X11_walk (_ n : Int) (μ μ' : Mem) (r : Int) : Prop := ChgM (chgT (stM μ) n (-1) (fun v => decide (v 8 0 < 8)) walkF (fun v => v 8 0)) μ μ' r
def S_X11_walk : S0t := fun as μ Q => match as with
  | [(2, x0), (0, x1)] => P_X11_walk x0 x1 μ ∧ ∀ (μ' : Mem) (r : Int), Q_X11_walk x0 x1 μ μ' r → Q μ' (some (kI r))
  | _ => False
theorem mono_X11_walk : Mono S_X11_walk := by
  intro as μ Q Q' h hS
  unfold S_X11_walk at hS ⊢
  split at hS
  · exact ⟨hS.1, fun μ' r q => h _ _ (hS.2 _ _ q)⟩
  · exact hS.elim
def iX11_walk : Inf := (kX11_walk, fTX11, pTX11, cTX11, lTX11, sTX11, [(219, 0, 1, 11, S_X11_isTown), (209, 0, 1, 11, S_X11_of), (237, 0, 1, 11, S_X11_walkAt)])
theorem ok_X11_walk : infOK iX11_walk mX11_walk RX11 2 43 := ⟨kkX11_walk, fTX11_ok, pTX11_ok _, cTX11_ok, lTX11_ok, sTX11_ok, c_cons ⟨mX11_isTown, 1, 22, ct_X11_isTown, mmX11_isTown, vvX11_isTown, lkX11_219, ⟨by decide, by decide⟩, ⟨_, _, rfl⟩, by decide, mono_X11_isTown⟩ (c_cons ⟨mX11_of, 0, 0, ct_X11_of, mmX11_of, vvX11_of, lkX11_209, ⟨by decide, by decide⟩, ⟨_, _, rfl⟩, by decide, mono_X11_of⟩ (c_cons ⟨mX11_walkAt, 0, 0, ct_X11_walkAt, mmX11_walkAt, vvX11_walkAt, lkX11_237, ⟨by decide, by decide⟩, ⟨_, _, rfl⟩, by decide, mono_X11_walkAt⟩ (c_nil)))⟩
theorem mt_X11_walk : mtOK [] RX11 2 43 := mt_nil
abbrev V_X11_walk (R : Mem → Option AV → Prop) (pc : Nat) (lc : List (Nat × AV)) (μ : Mem) : Prop := VM mX11_walk RX11 2 43 R pc lc [] μ
set_option maxRecDepth 20000 in
theorem vc_X11_walk_0 {R : Mem → Option AV → Prop} {n : Int} {μ : Mem} (H : P_X11_isTown 201 n μ ∧ (∀ (μ1 : Mem) (rv2 : Int), Q_X11_isTown 201 n μ μ1 rv2 → r32 rv2 ∧ ((rv2 = 0) → R μ1 (some (kI (-1)))) ∧ (¬ (rv2 = 0) → P_X11_of 201 4 μ1 ∧ r32 (F_X11_of 201 4 μ1) ∧ ((¬ (F_X11_of 201 4 μ1) = (8 : Int)) → P_X11_of 201 4 μ1 ∧ P_X11_walkAt 201 (F_X11_of 201 4 μ1) μ1 ∧ (0 ≤ (F_X11_walkAt 201 (F_X11_of 201 4 μ1) μ1) ∧ (F_X11_walkAt 201 (F_X11_of 201 4 μ1) μ1) < 5160) ∧ V_X11_walk R 37 [(0, kR 201), (2, kI (F_X11_walkAt 201 (F_X11_of 201 4 μ1) μ1))] (updm μ1 202 (F_X11_walkAt 201 (F_X11_of 201 4 μ1) μ1) 0)) ∧ (¬ (¬ (F_X11_of 201 4 μ1) = (8 : Int)) → R μ1 (some (kI (-1))))))) : V_X11_walk R 0 [(0, kR 201), (1, kI n)] μ := by
  refine vm_step2 mt_X11_walk ok_X11_walk [(37, [0, 2]), (46, [0]), (61, [0])] 1000 ?_
  show isC 201 11 ∧ P_X11_isTown 201 n μ ∧ (∀ (μ1 : Mem) (rv2 : Int), Q_X11_isTown 201 n μ μ1 rv2 → r32 rv2 ∧ ((rv2 = 0) → R μ1 (some (kI (-1)))) ∧ (¬ (rv2 = 0) → isC 201 11 ∧ P_X11_of 201 4 μ1 ∧ (r32 (F_X11_of 201 4 μ1) ∧ r32 (8 : Int)) ∧ ((¬ (F_X11_of 201 4 μ1) = (8 : Int)) → isC 201 11 ∧ P_X11_of 201 4 μ1 ∧ isC 201 11 ∧ P_X11_walkAt 201 (F_X11_of 201 4 μ1) μ1 ∧ isC 201 11 ∧ inA 202 0 (F_X11_walkAt 201 (F_X11_of 201 4 μ1) μ1) ∧ V_X11_walk R 37 [(0, kR 201), (2, kI (F_X11_walkAt 201 (F_X11_of 201 4 μ1) μ1))] (updm μ1 202 (F_X11_walkAt 201 (F_X11_of 201 4 μ1) μ1) 0)) ∧ (¬ (¬ (F_X11_of 201 4 μ1) = (8 : Int)) → R μ1 (some (kI (-1))))))
  exact ⟨c_201, H.1, fun μ1 rv2 hq3 => ⟨(H.2 μ1 rv2 hq3).1, fun hc5 => ((H.2 μ1 rv2 hq3).2.1 hc5), fun hc5 => ⟨c_201, ((H.2 μ1 rv2 hq3).2.2 hc5).1, ⟨⟨((H.2 μ1 rv2 hq3).2.2 hc5).2.1, by unfold r32; omega⟩, fun hc4 => ⟨c_201, (((H.2 μ1 rv2 hq3).2.2 hc5).2.2.1 hc4).1, ⟨c_201, (((H.2 μ1 rv2 hq3).2.2 hc5).2.2.1 hc4).2.1, ⟨c_201, ⟨isArr.in a_202 (((H.2 μ1 rv2 hq3).2.2 hc5).2.2.1 hc4).2.2.1.1 (((H.2 μ1 rv2 hq3).2.2 hc5).2.2.1 hc4).2.2.1.2, (((H.2 μ1 rv2 hq3).2.2 hc5).2.2.1 hc4).2.2.2⟩⟩⟩⟩, fun hc4 => (((H.2 μ1 rv2 hq3).2.2 hc5).2.2.2 hc4)⟩⟩⟩⟩
set_option maxRecDepth 20000 in
theorem vc_X11_walk_37 {R : Mem → Option AV → Prop} {p : Int} {μ : Mem} (H : (0 ≤ (p + 1) ∧ (p + 1) < 5160) ∧ V_X11_walk R 46 [(0, kR 201)] (updm μ 202 (p + 1) 1)) : V_X11_walk R 37 [(0, kR 201), (2, kI p)] μ := by
  refine vm_step2 mt_X11_walk ok_X11_walk [(37, [0, 2]), (46, [0]), (61, [0])] 1000 ?_
  show isC 201 11 ∧ inA 202 0 (p + 1) ∧ V_X11_walk R 46 [(0, kR 201)] (updm μ 202 (p + 1) 1)
  exact ⟨c_201, ⟨isArr.in a_202 H.1.1 H.1.2, H.2⟩⟩
set_option maxRecDepth 20000 in
theorem vc_X11_walk_46 {R : Mem → Option AV → Prop} {μ : Mem} (H : (0 ≤ ((μ 201 12) + 4) ∧ ((μ 201 12) + 4) < 5160) ∧ (0 ≤ ((μ 201 12) + 4) ∧ ((μ 201 12) + 4) < 5160) ∧ V_X11_walk R 61 [(0, kR 201)] (updm μ 202 ((μ 201 12) + 4) ((μ 202 ((μ 201 12) + 4)) + 1))) : V_X11_walk R 46 [(0, kR 201)] μ := by
  refine vm_step2 mt_X11_walk ok_X11_walk [(37, [0, 2]), (46, [0]), (61, [0])] 1000 ?_
  show isC 201 11 ∧ isC 201 11 ∧ inA 202 0 ((μ 201 12) + 4) ∧ inA 202 0 ((μ 201 12) + 4) ∧ V_X11_walk R 61 [(0, kR 201)] (updm μ 202 ((μ 201 12) + 4) ((μ 202 ((μ 201 12) + 4)) + 1))
  exact ⟨c_201, ⟨c_201, ⟨isArr.in a_202 H.1.1 H.1.2, ⟨isArr.in a_202 H.2.1.1 H.2.1.2, H.2.2⟩⟩⟩⟩
set_option maxRecDepth 20000 in
theorem vc_X11_walk_61 {R : Mem → Option AV → Prop} {μ : Mem} (H : P_X11_of 201 4 μ ∧ R μ (some (kI ((F_X11_of 201 4 μ) - 1)))) : V_X11_walk R 61 [(0, kR 201)] μ := by
  refine vm_step2 mt_X11_walk ok_X11_walk [(37, [0, 2]), (46, [0]), (61, [0])] 1000 ?_
  show isC 201 11 ∧ P_X11_of 201 4 μ ∧ R μ (some (kI ((F_X11_of 201 4 μ) - 1)))
  exact ⟨c_201, H.1, H.2⟩
theorem body_X11_walk {o n : Int} {μ : Mem} {R : Mem → Option AV → Prop} (h : P_X11_walk o n μ) (hR : ∀ (μ' : Mem) (r : Int), Q_X11_walk o n μ μ' r → R μ' (some (kI r))) : V_X11_walk R 0 [(0, kR o), (1, kI n)] μ := by
  obtain ⟨rfl, hs, r_n⟩ := h
  have ht3 := hs.1.2.1
  rw [mn_3] at ht3
  refine vc_X11_walk_0 ⟨⟨rfl, hs, r_n⟩, fun m rv q => ?_⟩
  obtain ⟨q1, q2, q3, q4⟩ := q
  have ask : AskM μ m := fun z hz => q1 z (by omega)
  by_cases c : 0 ≤ n ∧ n < μ 202 0
  · obtain ⟨rfl, hb, hv, h12⟩ := q4 c
    have cn : 0 ≤ n ∧ n < μ 202 0 := c
    have ok := hb.v
    have hp := hb.p
    have hpe := hb.2.1
    have w8 := ok.2.2.2.2.2.2.2.1
    have ws := ok.2.2.2.2.2.2.2.2.1
    have dd := ok.2.2.2.2.2.2.2.2.2.1
    have e2 : m 202 = μ 202 := q1 202 (by omega)
    have evm : vm m = tmF (μ 202) (510 + 260 * n) := by unfold vm; rw [e2, h12]
    have f8 := v8_ m
    have f12 := v12_ m
    rw [h12, e2] at f8 f12
    refine ⟨rr (by omega), fun q => absurd q (by omega), fun _ => ?_⟩
    have e8 : F_X11_of 201 4 m = vm m 8 0 := rfl
    have ew : F_X11_walkAt 201 (F_X11_of 201 4 m) m = 510 + 260 * n + 104 + 18 * vm m 8 0 := by unfold F_X11_walkAt; rw [e8, h12]
    rw [ew]
    refine ⟨⟨rfl, hb.1, by omega, by omega⟩, by rw [e8]; exact rr (by omega), fun d => ⟨⟨rfl, hb.1, by omega, by omega⟩, rfl, by rw [e8] at d; omega, ?_⟩, fun d => ?_⟩
    · rw [e8] at d
      obtain ⟨m1, e1⟩ : ∃ x, x = updm m 202 (510 + 260 * n + 104 + 18 * vm m 8 0) 0 := ⟨_, rfl⟩
      rw [← e1]
      refine vc_X11_walk_37 ⟨by omega, ?_⟩
      obtain ⟨m2, em2⟩ : ∃ x, x = updm m1 202 (510 + 260 * n + 104 + 18 * vm m 8 0 + 1) 1 := ⟨_, rfl⟩
      rw [← em2]
      have g12 : m2 201 12 = 510 + 260 * n := by rw [em2, ru_ne (by omega), e1, ru_ne (by omega), h12]
      have g4 : m2 202 (510 + 260 * n + 4) = vm m 8 0 := by rw [em2, ru_eq, r1_ne (by omega), e1, ru_eq, r1_ne (by omega), e2]; exact f8.symm
      refine vc_X11_walk_46 ?_
      rw [g12, g4]
      refine ⟨by omega, by omega, ?_⟩
      obtain ⟨m3, em3⟩ : ∃ x, x = updm m2 202 (510 + 260 * n + 4) (vm m 8 0 + 1) := ⟨_, rfl⟩
      rw [← em3]
      have k12 : m3 201 12 = 510 + 260 * n := by rw [em3, ru_ne (by omega), g12]
      have k4 : m3 202 (510 + 260 * n + 4) = vm m 8 0 + 1 := by rw [em3, ru_eq, r1_eq]
      have kj : ∀ j : Int, j ≠ 510 + 260 * n + 4 → j ≠ 510 + 260 * n + 104 + 18 * vm m 8 0 → j ≠ 510 + 260 * n + 104 + 18 * vm m 8 0 + 1 → m3 202 j = μ 202 j := fun j j1 j2 j3 => by rw [em3, ru_eq, r1_ne j1, em2, ru_eq, r1_ne j3, e1, ru_eq, r1_ne j2, e2]
      have ka : m3 202 (510 + 260 * n + 104 + 18 * vm m 8 0) = 0 := by rw [em3, ru_eq, r1_ne (by omega), em2, ru_eq, r1_ne (by omega), e1, ru_eq, r1_eq]
      have kb : m3 202 (510 + 260 * n + 105 + 18 * vm m 8 0) = 1 := by rw [em3, ru_eq, r1_ne (by omega), em2, ru_eq, show 510 + 260 * n + 105 + 18 * vm m 8 0 = 510 + 260 * n + 104 + 18 * vm m 8 0 + 1 by omega, r1_eq]
      have kz : ∀ z : Int, z ≠ 202 → m3 z = m z := fun z hz => by rw [em3, ru_ne hz, em2, ru_ne hz, e1, ru_ne hz]
      refine vc_X11_walk_61 ⟨⟨rfl, by omega, by omega, by omega⟩, hR m3 _ (chm_yes hs cn (by rw [← hv]; exact decide_eq_true (by omega)) (fun j hj => kj j (by omega) (by omega) (by omega)) (by rw [kz 203 (by omega), q1 203 (by omega)]) (fun z hz => by rw [kz z (by omega), q1 z (by omega)]) ?_ ?_)⟩
      · rw [tm_set (f := μ 202) (fun j j0 j1 j2 => kj j j2 (by omega) (by omega)), k4, kj (510 + 260 * n + 250) (by omega) (by omega) (by omega), ← evm, ← hv]
        unfold walkF
        refine setF_eq rfl ?_ ?_ ?_ f12.symm ?_
        · funext j
          by_cases ej : j = vm m 8 0
          · rw [ej, r1_eq, clip_in (by omega) (by omega), ka]
          · rw [r1_ne ej]
            show (if 0 ≤ j ∧ j < vm m 8 0 + 1 then m3 202 (510 + 260 * n + 104 + 18 * j) else 0) = vm m 9 j
            by_cases cj : 0 ≤ j ∧ j < vm m 8 0
            · rw [if_pos (by omega), kj _ (by omega) (by omega) (by omega), v9_ m cj.1 cj.2, h12, e2]
            · rw [if_neg (by omega)]
              exact (if_neg (by rw [h12, e2, ← f8]; exact cj)).symm
        · funext j
          by_cases ej : j = vm m 8 0
          · rw [ej, r1_eq, clip_in (by omega) (by omega), kb]
          · rw [r1_ne ej]
            show (if 0 ≤ j ∧ j < vm m 8 0 + 1 then m3 202 (510 + 260 * n + 105 + 18 * j) else 0) = vm m 10 j
            by_cases cj : 0 ≤ j ∧ j < vm m 8 0
            · rw [if_pos (by omega), kj _ (by omega) (by omega) (by omega), v10_ m cj.1 cj.2, h12, e2]
            · rw [if_neg (by omega)]
              exact (if_neg (by rw [h12, e2, ← f8]; exact cj)).symm
        · funext j
          rw [evm]
          show _ = if 0 ≤ j ∧ j / 16 < μ 202 (510 + 260 * n + 4) ∧ j % 16 < μ 202 (510 + 260 * n + 104 + 18 * (j / 16)) then μ 202 (510 + 260 * n + 106 + 18 * (j / 16) + j % 16) else 0
          rw [← evm, ← f8]
          by_cases ej : j / 16 = vm m 8 0
          · rw [ej, ka, if_neg (by omega), if_neg (by omega)]
          · by_cases cj : 0 ≤ j ∧ j / 16 < vm m 8 0
            · have k9 := kj (510 + 260 * n + 104 + 18 * (j / 16)) (by omega) (by omega) (by omega)
              rw [k9]
              by_cases cs : j % 16 < μ 202 (510 + 260 * n + 104 + 18 * (j / 16))
              · rw [if_pos ⟨cj.1, by omega, cs⟩, if_pos ⟨cj.1, cj.2, cs⟩, kj _ (by omega) (by omega) (by omega)]
              · rw [if_neg (fun q => cs q.2.2), if_neg (fun q => cs q.2.2)]
            · rw [if_neg (fun q => cj ⟨q.1, by omega⟩), if_neg (fun q => cj ⟨q.1, q.2.1⟩)]
        · rw [← f12]
          show _ = vm m 13
          have e13 : vm m 13 = clip (vm m 12 0) (fun i => μ 202 (510 + 260 * n + 251 + i)) := by rw [evm]; rfl
          rw [e13]
          exact clip_ext fun j j0 j1 => kj _ (by omega) (by omega) (by omega)
      · rw [← hv]
        show m3 202 (m3 201 12 + 4) - 1 = vm m 8 0
        rw [k12, k4]; omega
    · rw [e8] at d
      exact hR m _ (chm_p0 (by rw [← hv]; exact decide_eq_false (by omega)) ask)
  · have e := q3 c
    subst e
    have no : Q_X11_walk 201 n μ m (-1) := chm_no c ask
    exact ⟨rr (by omega), fun _ => hR m _ no, fun q => absurd rfl q⟩
theorem ct_X11_walk : Ct mX11_walk 2 43 0 0 (nrmS S_X11_walk) := by
  refine ct_vm (own := RX11) (by decide +kernel) rfl ?_ ?_
  · intro as μ Q hS
    unfold S_X11_walk at hS
    split at hS
    · exact Nat.le_of_ble_eq_true rfl
    · exact hS.elim
  · intro as μ R hS
    unfold S_X11_walk at hS
    split at hS
    · exact body_X11_walk hS.1 hS.2
    · exact hS.elim
def P_X11_weigh (o n a b : Int) (μ : Mem) : Prop := o = 201 ∧ SOk (stM μ) ∧ r32 n ∧ r32 a ∧ r32 b
def Q_X11_weigh (_ n a b : Int) (μ μ' : Mem) (r : Int) : Prop := ChgM (chgT (stM μ) n (0) (fun v => decide ((0 ≤ a ∧ a < v 8 0) ∧ 0 ≤ b ∧ b ≤ 99)) (weighF a b) (fun _ => 1)) μ μ' r
def S_X11_weigh : S0t := fun as μ Q => match as with
  | [(2, x0), (0, x1), (0, x2), (0, x3)] => P_X11_weigh x0 x1 x2 x3 μ ∧ ∀ (μ' : Mem) (r : Int), Q_X11_weigh x0 x1 x2 x3 μ μ' r → Q μ' (some (kI r))
  | _ => False
theorem mono_X11_weigh : Mono S_X11_weigh := by
  intro as μ Q Q' h hS
  unfold S_X11_weigh at hS ⊢
  split at hS
  · exact ⟨hS.1, fun μ' r q => h _ _ (hS.2 _ _ q)⟩
  · exact hS.elim
def iX11_weigh : Inf := (kX11_weigh, fTX11, pTX11, cTX11, lTX11, sTX11, [(240, 0, 2, 11, S_X11_isWalk), (162, 1, 3, 0, S_X11_isIn), (237, 0, 1, 11, S_X11_walkAt)])
theorem ok_X11_weigh : infOK iX11_weigh mX11_weigh RX11 3 65 := ⟨kkX11_weigh, fTX11_ok, pTX11_ok _, cTX11_ok, lTX11_ok, sTX11_ok, c_cons ⟨mX11_isWalk, 2, 43, ct_X11_isWalk, mmX11_isWalk, vvX11_isWalk, lkX11_240, ⟨by decide, by decide⟩, ⟨_, _, rfl⟩, by decide, mono_X11_isWalk⟩ (c_cons ⟨mX11_isIn, 0, 0, ct_X11_isIn, mmX11_isIn, stX11_isIn, lkX11_162, ⟨by decide, by decide⟩, mono_X11_isIn⟩ (c_cons ⟨mX11_walkAt, 0, 0, ct_X11_walkAt, mmX11_walkAt, vvX11_walkAt, lkX11_237, ⟨by decide, by decide⟩, ⟨_, _, rfl⟩, by decide, mono_X11_walkAt⟩ (c_nil)))⟩
theorem mt_X11_weigh : mtOK [] RX11 3 65 := mt_nil
abbrev V_X11_weigh (R : Mem → Option AV → Prop) (pc : Nat) (lc : List (Nat × AV)) (μ : Mem) : Prop := VM mX11_weigh RX11 3 65 R pc lc [] μ
set_option maxRecDepth 20000 in
theorem vc_X11_weigh_0 {R : Mem → Option AV → Prop} {n a b : Int} {μ : Mem} (H : P_X11_isWalk 201 n a μ ∧ (∀ (μ1 : Mem) (rv2 : Int), Q_X11_isWalk 201 n a μ μ1 rv2 → r32 rv2 ∧ ((rv2 = 0) → R μ1 (some (kI 0))) ∧ (¬ (rv2 = 0) → P_X11_isIn b 0 99 μ1 ∧ r32 (F_X11_isIn b 0 99 μ1) ∧ ((¬ (F_X11_isIn b 0 99 μ1) = 0) → P_X11_walkAt 201 a μ1 ∧ (0 ≤ ((F_X11_walkAt 201 a μ1) + 1) ∧ ((F_X11_walkAt 201 a μ1) + 1) < 5160) ∧ V_X11_weigh R 34 [] (updm μ1 202 ((F_X11_walkAt 201 a μ1) + 1) b)) ∧ (¬ (¬ (F_X11_isIn b 0 99 μ1) = 0) → R μ1 (some (kI 0)))))) : V_X11_weigh R 0 [(0, kR 201), (1, kI n), (2, kI a), (3, kI b)] μ := by
  refine vm_step2 mt_X11_weigh ok_X11_weigh [(34, [])] 1000 ?_
  show isC 201 11 ∧ P_X11_isWalk 201 n a μ ∧ (∀ (μ1 : Mem) (rv2 : Int), Q_X11_isWalk 201 n a μ μ1 rv2 → r32 rv2 ∧ ((rv2 = 0) → (0 ≤ (0 : Int) ∧ (0 : Int) ≤ 1) ∧ R μ1 (some (kI 0))) ∧ (¬ (rv2 = 0) → P_X11_isIn b 0 99 μ1 ∧ r32 (F_X11_isIn b 0 99 μ1) ∧ ((¬ (F_X11_isIn b 0 99 μ1) = 0) → isC 201 11 ∧ isC 201 11 ∧ P_X11_walkAt 201 a μ1 ∧ inA 202 0 ((F_X11_walkAt 201 a μ1) + 1) ∧ V_X11_weigh R 34 [] (updm μ1 202 ((F_X11_walkAt 201 a μ1) + 1) b)) ∧ (¬ (¬ (F_X11_isIn b 0 99 μ1) = 0) → (0 ≤ (0 : Int) ∧ (0 : Int) ≤ 1) ∧ R μ1 (some (kI 0)))))
  exact ⟨c_201, H.1, fun μ1 rv2 hq3 => ⟨(H.2 μ1 rv2 hq3).1, fun hc5 => ⟨⟨by omega, by omega⟩, ((H.2 μ1 rv2 hq3).2.1 hc5)⟩, fun hc5 => ⟨((H.2 μ1 rv2 hq3).2.2 hc5).1, ⟨((H.2 μ1 rv2 hq3).2.2 hc5).2.1, fun hc4 => ⟨c_201, ⟨c_201, (((H.2 μ1 rv2 hq3).2.2 hc5).2.2.1 hc4).1, ⟨isArr.in a_202 (((H.2 μ1 rv2 hq3).2.2 hc5).2.2.1 hc4).2.1.1 (((H.2 μ1 rv2 hq3).2.2 hc5).2.2.1 hc4).2.1.2, (((H.2 μ1 rv2 hq3).2.2 hc5).2.2.1 hc4).2.2⟩⟩⟩, fun hc4 => ⟨⟨by omega, by omega⟩, (((H.2 μ1 rv2 hq3).2.2 hc5).2.2.2 hc4)⟩⟩⟩⟩⟩
set_option maxRecDepth 20000 in
theorem vc_X11_weigh_34 {R : Mem → Option AV → Prop} {μ : Mem} (H : R μ (some (kI 1))) : V_X11_weigh R 34 [] μ := by
  refine vm_step2 mt_X11_weigh ok_X11_weigh [(34, [])] 1000 ?_
  show (0 ≤ (1 : Int) ∧ (1 : Int) ≤ 1) ∧ R μ (some (kI 1))
  exact ⟨⟨by omega, by omega⟩, H⟩
theorem body_X11_weigh {o n a b : Int} {μ : Mem} {R : Mem → Option AV → Prop} (h : P_X11_weigh o n a b μ) (hR : ∀ (μ' : Mem) (r : Int), Q_X11_weigh o n a b μ μ' r → R μ' (some (kI r))) : V_X11_weigh R 0 [(0, kR o), (1, kI n), (2, kI a), (3, kI b)] μ := by
  obtain ⟨rfl, hs, r_n, r_a, r_b⟩ := h
  have ht3 := hs.1.2.1
  rw [mn_3] at ht3
  refine vc_X11_weigh_0 ⟨⟨rfl, hs, r_n, r_a⟩, fun m rv q => ?_⟩
  obtain ⟨q1, q2, q3, q4⟩ := q
  have ask : AskM μ m := fun z hz => q1 z (by omega)
  by_cases c : (0 ≤ n ∧ n < μ 202 0) ∧ 0 ≤ a ∧ a < (stM μ).1.2.2 n 8 0
  · obtain ⟨rfl, hb, hv, h12⟩ := q4 c
    have cn : 0 ≤ n ∧ n < μ 202 0 := c.1
    have ok := hb.v
    have hp := hb.p
    have hpe := hb.2.1
    have w8 := ok.2.2.2.2.2.2.2.1
    have ws := ok.2.2.2.2.2.2.2.2.1
    have dd := ok.2.2.2.2.2.2.2.2.2.1
    have e2 : m 202 = μ 202 := q1 202 (by omega)
    have evm : vm m = tmF (μ 202) (510 + 260 * n) := by unfold vm; rw [e2, h12]
    have f8 := v8_ m
    have f12 := v12_ m
    rw [h12, e2] at f8 f12
    refine ⟨rr (by omega), fun q => absurd q (by omega), fun _ => ?_⟩
    have ca : 0 ≤ a ∧ a < vm m 8 0 := by rw [hv]; exact c.2
    have ir := isIn_r (x := b) (lo := 0) (hi := 99) (μ := m)
    have ew : F_X11_walkAt 201 a m = 510 + 260 * n + 104 + 18 * a := by unfold F_X11_walkAt; rw [h12]
    rw [ew]
    refine ⟨⟨r_b, rr (by omega), rr (by omega)⟩, rr (by omega), fun d => ⟨rfl, by omega, ?_⟩, fun d => hR m _ (chm_p0 (by rw [← hv]; exact decide_eq_false (fun q => d (isIn_1.mpr q.2))) ask)⟩
    have db := isIn_1.mp d
    obtain ⟨m3, em3⟩ : ∃ x, x = updm m 202 (510 + 260 * n + 104 + 18 * a + 1) b := ⟨_, rfl⟩
    rw [← em3]
    have kj : ∀ j : Int, j ≠ 510 + 260 * n + 104 + 18 * a + 1 → m3 202 j = μ 202 j := fun j j1 => by rw [em3, ru_eq, r1_ne j1, e2]
    have kb : m3 202 (510 + 260 * n + 105 + 18 * a) = b := by rw [em3, ru_eq, show 510 + 260 * n + 105 + 18 * a = 510 + 260 * n + 104 + 18 * a + 1 by omega, r1_eq]
    have kz : ∀ z : Int, z ≠ 202 → m3 z = m z := fun z hz => by rw [em3, ru_ne hz]
    refine vc_X11_weigh_34 (hR m3 _ (chm_yes hs cn (by rw [← hv]; exact decide_eq_true ⟨ca, db⟩) (fun j hj => kj j (by omega)) (by rw [kz 203 (by omega), q1 203 (by omega)]) (fun z hz => by rw [kz z (by omega), q1 z (by omega)]) ?_ rfl))
    rw [tm_set (f := μ 202) (fun j j0 j1 j2 => kj j (by omega)), kj (510 + 260 * n + 4) (by omega), kj (510 + 260 * n + 250) (by omega), ← evm, ← hv]
    unfold weighF
    refine setF_eq f8.symm ?_ ?_ ?_ f12.symm ?_
    · have e9 : vm m 9 = clip (vm m 8 0) (fun w => μ 202 (510 + 260 * n + 104 + 18 * w)) := by rw [evm]; rfl
      rw [e9, ← f8]
      exact clip_ext fun j j0 j1 => kj _ (by omega)
    · have e10 : vm m 10 = clip (vm m 8 0) (fun w => μ 202 (510 + 260 * n + 105 + 18 * w)) := by rw [evm]; rfl
      rw [e10, ← f8]
      funext j
      by_cases ej : j = a
      · rw [ej, r1_eq, clip_in ca.1 ca.2, kb]
      · rw [r1_ne ej]
        unfold clip
        by_cases cj : 0 ≤ j ∧ j < vm m 8 0
        · rw [if_pos cj, if_pos cj]
          exact kj _ (by omega)
        · rw [if_neg cj, if_neg cj]
    · have e11 : vm m 11 = fun j => if 0 ≤ j ∧ j / 16 < μ 202 (510 + 260 * n + 4) ∧ j % 16 < μ 202 (510 + 260 * n + 104 + 18 * (j / 16)) then μ 202 (510 + 260 * n + 106 + 18 * (j / 16) + j % 16) else 0 := by rw [evm]; rfl
      rw [e11]
      funext j
      by_cases cj : 0 ≤ j ∧ j / 16 < μ 202 (510 + 260 * n + 4)
      · have cl : 0 ≤ j ∧ j / 16 < vm m 8 0 := by omega
        rw [kj (510 + 260 * n + 104 + 18 * (j / 16)) (by omega)]
        by_cases cs : j % 16 < μ 202 (510 + 260 * n + 104 + 18 * (j / 16))
        · rw [if_pos ⟨cj.1, cj.2, cs⟩, if_pos ⟨cj.1, cj.2, cs⟩, kj _ (by omega)]
        · rw [if_neg (fun q => cs q.2.2), if_neg (fun q => cs q.2.2)]
      · rw [if_neg (fun q => cj ⟨q.1, q.2.1⟩), if_neg (fun q => cj ⟨q.1, q.2.1⟩)]
    · have e13 : vm m 13 = clip (vm m 12 0) (fun i => μ 202 (510 + 260 * n + 251 + i)) := by rw [evm]; rfl
      rw [e13, ← f12]
      exact clip_ext fun j j0 j1 => kj _ (by omega)
  · have e := q3 c
    subst e
    have no : Q_X11_weigh 201 n a b μ m (0) := by
      by_cases cn : 0 ≤ n ∧ n < μ 202 0
      · exact chm_p0 (decide_eq_false (fun q => c ⟨cn, q.1⟩)) ask
      · exact chm_no cn ask
    exact ⟨rr (by omega), fun _ => hR m _ no, fun q => absurd rfl q⟩
theorem ct_X11_weigh : Ct mX11_weigh 3 65 0 0 (nrmS S_X11_weigh) := by
  refine ct_vm (own := RX11) (by decide +kernel) rfl ?_ ?_
  · intro as μ Q hS
    unfold S_X11_weigh at hS
    split at hS
    · exact Nat.le_of_ble_eq_true rfl
    · exact hS.elim
  · intro as μ R hS
    unfold S_X11_weigh at hS
    split at hS
    · exact body_X11_weigh hS.1 hS.2
    · exact hS.elim
def P_X11_stop (o n a b : Int) (μ : Mem) : Prop := o = 201 ∧ SOk (stM μ) ∧ r32 n ∧ r32 a ∧ r32 b
def Q_X11_stop (_ n a b : Int) (μ μ' : Mem) (r : Int) : Prop := ChgM (chgT (stM μ) n (-1) (fun v => decide ((0 ≤ a ∧ a < v 8 0) ∧ (0 ≤ b ∧ b < v 0 0) ∧ v 9 a < 16)) (stopF a b) (fun v => v 9 a + 1)) μ μ' r
def S_X11_stop : S0t := fun as μ Q => match as with
  | [(2, x0), (0, x1), (0, x2), (0, x3)] => P_X11_stop x0 x1 x2 x3 μ ∧ ∀ (μ' : Mem) (r : Int), Q_X11_stop x0 x1 x2 x3 μ μ' r → Q μ' (some (kI r))
  | _ => False
theorem mono_X11_stop : Mono S_X11_stop := by
  intro as μ Q Q' h hS
  unfold S_X11_stop at hS ⊢
  split at hS
  · exact ⟨hS.1, fun μ' r q => h _ _ (hS.2 _ _ q)⟩
  · exact hS.elim
def iX11_stop : Inf := (kX11_stop, fTX11, pTX11, cTX11, lTX11, sTX11, [(240, 0, 2, 11, S_X11_isWalk), (231, 0, 1, 11, S_X11_isPlace), (237, 0, 1, 11, S_X11_walkAt)])
theorem ok_X11_stop : infOK iX11_stop mX11_stop RX11 3 65 := ⟨kkX11_stop, fTX11_ok, pTX11_ok _, cTX11_ok, lTX11_ok, sTX11_ok, c_cons ⟨mX11_isWalk, 2, 43, ct_X11_isWalk, mmX11_isWalk, vvX11_isWalk, lkX11_240, ⟨by decide, by decide⟩, ⟨_, _, rfl⟩, by decide, mono_X11_isWalk⟩ (c_cons ⟨mX11_isPlace, 1, 22, ct_X11_isPlace, mmX11_isPlace, vvX11_isPlace, lkX11_231, ⟨by decide, by decide⟩, ⟨_, _, rfl⟩, by decide, mono_X11_isPlace⟩ (c_cons ⟨mX11_walkAt, 0, 0, ct_X11_walkAt, mmX11_walkAt, vvX11_walkAt, lkX11_237, ⟨by decide, by decide⟩, ⟨_, _, rfl⟩, by decide, mono_X11_walkAt⟩ (c_nil)))⟩
theorem mt_X11_stop : mtOK [] RX11 3 65 := mt_nil
abbrev V_X11_stop (R : Mem → Option AV → Prop) (pc : Nat) (lc : List (Nat × AV)) (μ : Mem) : Prop := VM mX11_stop RX11 3 65 R pc lc [] μ
set_option maxRecDepth 20000 in
theorem vc_X11_stop_0 {R : Mem → Option AV → Prop} {n a b : Int} {μ : Mem} (H : P_X11_isWalk 201 n a μ ∧ (∀ (μ1 : Mem) (rv2 : Int), Q_X11_isWalk 201 n a μ μ1 rv2 → r32 rv2 ∧ ((rv2 = 0) → R μ1 (some (kI (-1)))) ∧ (¬ (rv2 = 0) → P_X11_isPlace 201 b μ1 ∧ r32 (F_X11_isPlace 201 b μ1) ∧ ((¬ (F_X11_isPlace 201 b μ1) = 0) → P_X11_walkAt 201 a μ1 ∧ (0 ≤ (F_X11_walkAt 201 a μ1) ∧ (F_X11_walkAt 201 a μ1) < 5160) ∧ r32 (μ1 202 (F_X11_walkAt 201 a μ1)) ∧ ((¬ (μ1 202 (F_X11_walkAt 201 a μ1)) = (16 : Int)) → (0 ≤ (F_X11_walkAt 201 a μ1) ∧ (F_X11_walkAt 201 a μ1) < 5160) ∧ (0 ≤ (((F_X11_walkAt 201 a μ1) + 2) + (μ1 202 (F_X11_walkAt 201 a μ1))) ∧ (((F_X11_walkAt 201 a μ1) + 2) + (μ1 202 (F_X11_walkAt 201 a μ1))) < 5160) ∧ V_X11_stop R 58 [(0, kR 201), (4, kI (F_X11_walkAt 201 a μ1))] (updm μ1 202 (((F_X11_walkAt 201 a μ1) + 2) + (μ1 202 (F_X11_walkAt 201 a μ1))) b)) ∧ (¬ (¬ (μ1 202 (F_X11_walkAt 201 a μ1)) = (16 : Int)) → R μ1 (some (kI (-1))))) ∧ (¬ (¬ (F_X11_isPlace 201 b μ1) = 0) → R μ1 (some (kI (-1))))))) : V_X11_stop R 0 [(0, kR 201), (1, kI n), (2, kI a), (3, kI b)] μ := by
  refine vm_step2 mt_X11_stop ok_X11_stop [(58, [0, 4]), (69, [0, 4])] 1000 ?_
  show isC 201 11 ∧ P_X11_isWalk 201 n a μ ∧ (∀ (μ1 : Mem) (rv2 : Int), Q_X11_isWalk 201 n a μ μ1 rv2 → r32 rv2 ∧ ((rv2 = 0) → R μ1 (some (kI (-1)))) ∧ (¬ (rv2 = 0) → isC 201 11 ∧ P_X11_isPlace 201 b μ1 ∧ r32 (F_X11_isPlace 201 b μ1) ∧ ((¬ (F_X11_isPlace 201 b μ1) = 0) → isC 201 11 ∧ P_X11_walkAt 201 a μ1 ∧ isC 201 11 ∧ inA 202 0 (F_X11_walkAt 201 a μ1) ∧ (r32 (μ1 202 (F_X11_walkAt 201 a μ1)) ∧ r32 (16 : Int)) ∧ ((¬ (μ1 202 (F_X11_walkAt 201 a μ1)) = (16 : Int)) → isC 201 11 ∧ isC 201 11 ∧ inA 202 0 (F_X11_walkAt 201 a μ1) ∧ inA 202 0 (((F_X11_walkAt 201 a μ1) + 2) + (μ1 202 (F_X11_walkAt 201 a μ1))) ∧ V_X11_stop R 58 [(0, kR 201), (4, kI (F_X11_walkAt 201 a μ1))] (updm μ1 202 (((F_X11_walkAt 201 a μ1) + 2) + (μ1 202 (F_X11_walkAt 201 a μ1))) b)) ∧ (¬ (¬ (μ1 202 (F_X11_walkAt 201 a μ1)) = (16 : Int)) → R μ1 (some (kI (-1))))) ∧ (¬ (¬ (F_X11_isPlace 201 b μ1) = 0) → R μ1 (some (kI (-1))))))
  exact ⟨c_201, H.1, fun μ1 rv2 hq3 => ⟨(H.2 μ1 rv2 hq3).1, fun hc6 => ((H.2 μ1 rv2 hq3).2.1 hc6), fun hc6 => ⟨c_201, ((H.2 μ1 rv2 hq3).2.2 hc6).1, ⟨((H.2 μ1 rv2 hq3).2.2 hc6).2.1, fun hc5 => ⟨c_201, (((H.2 μ1 rv2 hq3).2.2 hc6).2.2.1 hc5).1, ⟨c_201, ⟨isArr.in a_202 (((H.2 μ1 rv2 hq3).2.2 hc6).2.2.1 hc5).2.1.1 (((H.2 μ1 rv2 hq3).2.2 hc6).2.2.1 hc5).2.1.2, ⟨⟨(((H.2 μ1 rv2 hq3).2.2 hc6).2.2.1 hc5).2.2.1, by unfold r32; omega⟩, fun hc4 => ⟨c_201, ⟨c_201, ⟨isArr.in a_202 ((((H.2 μ1 rv2 hq3).2.2 hc6).2.2.1 hc5).2.2.2.1 hc4).1.1 ((((H.2 μ1 rv2 hq3).2.2 hc6).2.2.1 hc5).2.2.2.1 hc4).1.2, ⟨isArr.in a_202 ((((H.2 μ1 rv2 hq3).2.2 hc6).2.2.1 hc5).2.2.2.1 hc4).2.1.1 ((((H.2 μ1 rv2 hq3).2.2 hc6).2.2.1 hc5).2.2.2.1 hc4).2.1.2, ((((H.2 μ1 rv2 hq3).2.2 hc6).2.2.1 hc5).2.2.2.1 hc4).2.2⟩⟩⟩⟩, fun hc4 => ((((H.2 μ1 rv2 hq3).2.2 hc6).2.2.1 hc5).2.2.2.2 hc4)⟩⟩⟩⟩, fun hc5 => (((H.2 μ1 rv2 hq3).2.2 hc6).2.2.2 hc5)⟩⟩⟩⟩
set_option maxRecDepth 20000 in
theorem vc_X11_stop_58 {R : Mem → Option AV → Prop} {p : Int} {μ : Mem} (H : (0 ≤ p ∧ p < 5160) ∧ (0 ≤ p ∧ p < 5160) ∧ V_X11_stop R 69 [(0, kR 201), (4, kI p)] (updm μ 202 p ((μ 202 p) + 1))) : V_X11_stop R 58 [(0, kR 201), (4, kI p)] μ := by
  refine vm_step2 mt_X11_stop ok_X11_stop [(58, [0, 4]), (69, [0, 4])] 1000 ?_
  show isC 201 11 ∧ inA 202 0 p ∧ inA 202 0 p ∧ V_X11_stop R 69 [(0, kR 201), (4, kI p)] (updm μ 202 p ((μ 202 p) + 1))
  exact ⟨c_201, ⟨isArr.in a_202 H.1.1 H.1.2, ⟨isArr.in a_202 H.2.1.1 H.2.1.2, H.2.2⟩⟩⟩
set_option maxRecDepth 20000 in
theorem vc_X11_stop_69 {R : Mem → Option AV → Prop} {p : Int} {μ : Mem} (H : (0 ≤ p ∧ p < 5160) ∧ R μ (some (kI (μ 202 p)))) : V_X11_stop R 69 [(0, kR 201), (4, kI p)] μ := by
  refine vm_step2 mt_X11_stop ok_X11_stop [(58, [0, 4]), (69, [0, 4])] 1000 ?_
  show isC 201 11 ∧ inA 202 0 p ∧ R μ (some (kI (μ 202 p)))
  exact ⟨c_201, ⟨isArr.in a_202 H.1.1 H.1.2, H.2⟩⟩
theorem body_X11_stop {o n a b : Int} {μ : Mem} {R : Mem → Option AV → Prop} (h : P_X11_stop o n a b μ) (hR : ∀ (μ' : Mem) (r : Int), Q_X11_stop o n a b μ μ' r → R μ' (some (kI r))) : V_X11_stop R 0 [(0, kR o), (1, kI n), (2, kI a), (3, kI b)] μ := by
  obtain ⟨rfl, hs, r_n, r_a, r_b⟩ := h
  have ht3 := hs.1.2.1
  rw [mn_3] at ht3
  refine vc_X11_stop_0 ⟨⟨rfl, hs, r_n, r_a⟩, fun m rv q => ?_⟩
  obtain ⟨q1, q2, q3, q4⟩ := q
  have ask : AskM μ m := fun z hz => q1 z (by omega)
  by_cases c : (0 ≤ n ∧ n < μ 202 0) ∧ 0 ≤ a ∧ a < (stM μ).1.2.2 n 8 0
  · obtain ⟨rfl, hb, hv, h12⟩ := q4 c
    have cn : 0 ≤ n ∧ n < μ 202 0 := c.1
    have ok := hb.v
    have hp := hb.p
    have hpe := hb.2.1
    have w8 := ok.2.2.2.2.2.2.2.1
    have ws := ok.2.2.2.2.2.2.2.2.1
    have dd := ok.2.2.2.2.2.2.2.2.2.1
    have e2 : m 202 = μ 202 := q1 202 (by omega)
    have evm : vm m = tmF (μ 202) (510 + 260 * n) := by unfold vm; rw [e2, h12]
    have f8 := v8_ m
    have f12 := v12_ m
    rw [h12, e2] at f8 f12
    refine ⟨rr (by omega), fun q => absurd q (by omega), fun _ => ?_⟩
    have ca : 0 ≤ a ∧ a < vm m 8 0 := by rw [hv]; exact c.2
    have ir := isPlace_r (o := 201) (a := b) (μ := m)
    have ew : F_X11_walkAt 201 a m = 510 + 260 * n + 104 + 18 * a := by unfold F_X11_walkAt; rw [h12]
    have wa := (ws a ca.1 ca.2).1
    have f9 : m 202 (510 + 260 * n + 104 + 18 * a) = vm m 9 a := by rw [v9_ m ca.1 ca.2, h12]
    rw [ew, f9]
    refine ⟨⟨rfl, hb, r_b⟩, rr (by omega), fun d => ⟨rfl, by omega, rr (by omega), fun d2 => ⟨by omega, by omega, ?_⟩, fun d2 => hR m _ (chm_p0 (by rw [← hv]; exact decide_eq_false (fun q => by have := q.2.2; omega)) ask)⟩, fun d => hR m _ (chm_p0 (by rw [← hv]; exact decide_eq_false (fun q => d (isPlace_1.mpr q.2.1))) ask)⟩
    have db := isPlace_1.mp d
    obtain ⟨m1, em1⟩ : ∃ x, x = updm m 202 (510 + 260 * n + 104 + 18 * a + 2 + vm m 9 a) b := ⟨_, rfl⟩
    rw [← em1]
    have g9 : m1 202 (510 + 260 * n + 104 + 18 * a) = vm m 9 a := by rw [em1, ru_eq, r1_ne (by omega), f9]
    refine vc_X11_stop_58 ⟨by omega, by omega, ?_⟩
    rw [g9]
    obtain ⟨m3, em3⟩ : ∃ x, x = updm m1 202 (510 + 260 * n + 104 + 18 * a) (vm m 9 a + 1) := ⟨_, rfl⟩
    rw [← em3]
    have k9 : m3 202 (510 + 260 * n + 104 + 18 * a) = vm m 9 a + 1 := by rw [em3, ru_eq, r1_eq]
    have kj : ∀ j : Int, j ≠ 510 + 260 * n + 104 + 18 * a → j ≠ 510 + 260 * n + 104 + 18 * a + 2 + vm m 9 a → m3 202 j = μ 202 j := fun j j1 j2 => by rw [em3, ru_eq, r1_ne j1, em1, ru_eq, r1_ne j2, e2]
    have kb : m3 202 (510 + 260 * n + 106 + 18 * a + vm m 9 a) = b := by rw [em3, ru_eq, r1_ne (by omega), em1, ru_eq, show 510 + 260 * n + 106 + 18 * a + vm m 9 a = 510 + 260 * n + 104 + 18 * a + 2 + vm m 9 a by omega, r1_eq]
    have kz : ∀ z : Int, z ≠ 202 → m3 z = m z := fun z hz => by rw [em3, ru_ne hz, em1, ru_ne hz]
    refine vc_X11_stop_69 ⟨by omega, hR m3 _ (chm_yes hs cn (by rw [← hv]; exact decide_eq_true ⟨ca, db, by omega⟩) (fun j hj => kj j (by omega) (by omega)) (by rw [kz 203 (by omega), q1 203 (by omega)]) (fun z hz => by rw [kz z (by omega), q1 z (by omega)]) ?_ (by rw [k9, ← hv]))⟩
    rw [tm_set (f := μ 202) (fun j j0 j1 j2 => kj j (by omega) (by omega)), kj (510 + 260 * n + 4) (by omega) (by omega), kj (510 + 260 * n + 250) (by omega) (by omega), ← evm, ← hv]
    unfold stopF
    refine setF_eq f8.symm ?_ ?_ ?_ f12.symm ?_
    · have e9 : ∀ j : Int, vm m 9 j = clip (vm m 8 0) (fun w => μ 202 (510 + 260 * n + 104 + 18 * w)) j := fun j => by rw [evm]; rfl
      rw [← f8]
      funext j
      by_cases ej : j = a
      · rw [ej, r1_eq, clip_in ca.1 ca.2, k9]
      · rw [r1_ne ej, e9 j]
        unfold clip
        by_cases cj : 0 ≤ j ∧ j < vm m 8 0
        · rw [if_pos cj, if_pos cj]
          exact kj _ (by omega) (by omega)
        · rw [if_neg cj, if_neg cj]
    · have e10 : vm m 10 = clip (vm m 8 0) (fun w => μ 202 (510 + 260 * n + 105 + 18 * w)) := by rw [evm]; rfl
      rw [e10, ← f8]
      exact clip_ext fun j j0 j1 => kj _ (by omega) (by omega)
    · have e11 : ∀ j : Int, vm m 11 j = if 0 ≤ j ∧ j / 16 < μ 202 (510 + 260 * n + 4) ∧ j % 16 < μ 202 (510 + 260 * n + 104 + 18 * (j / 16)) then μ 202 (510 + 260 * n + 106 + 18 * (j / 16) + j % 16) else 0 := fun j => by rw [evm]; rfl
      have f9' : μ 202 (510 + 260 * n + 104 + 18 * a) = vm m 9 a := by rw [← e2]; exact f9
      funext j
      by_cases ej : j = 16 * a + vm m 9 a
      · have d1 : j / 16 = a := by omega
        have d3 : j % 16 = vm m 9 a := by omega
        rw [d1, d3, k9, kb, if_pos ⟨by omega, by omega, by omega⟩, ej, r1_eq]
      · rw [r1_ne ej, e11 j]
        by_cases cj : 0 ≤ j ∧ j / 16 < μ 202 (510 + 260 * n + 4)
        · have cl : 0 ≤ j ∧ j / 16 < vm m 8 0 := by omega
          by_cases ea : j / 16 = a
          · rw [ea, k9, f9']
            by_cases cs : j % 16 < vm m 9 a
            · rw [if_pos ⟨cj.1, by omega, by omega⟩, if_pos ⟨cj.1, by omega, cs⟩, kj _ (by omega) (by omega)]
            · rw [if_neg (fun q => by have := q.2.2; omega), if_neg (fun q => cs q.2.2)]
          · have hw9 := (ws (j / 16) (by omega) cl.2).1
            rw [kj (510 + 260 * n + 104 + 18 * (j / 16)) (by omega) (by omega)]
            by_cases cs : j % 16 < μ 202 (510 + 260 * n + 104 + 18 * (j / 16))
            · rw [if_pos ⟨cj.1, cj.2, cs⟩, if_pos ⟨cj.1, cj.2, cs⟩, kj _ (by omega) (by omega)]
            · rw [if_neg (fun q => cs q.2.2), if_neg (fun q => cs q.2.2)]
        · rw [if_neg (fun q => cj ⟨q.1, q.2.1⟩), if_neg (fun q => cj ⟨q.1, q.2.1⟩)]
    · have e13 : vm m 13 = clip (vm m 12 0) (fun i => μ 202 (510 + 260 * n + 251 + i)) := by rw [evm]; rfl
      rw [e13, ← f12]
      exact clip_ext fun j j0 j1 => kj _ (by omega) (by omega)
  · have e := q3 c
    subst e
    have no : Q_X11_stop 201 n a b μ m (-1) := by
      by_cases cn : 0 ≤ n ∧ n < μ 202 0
      · exact chm_p0 (decide_eq_false (fun q => c ⟨cn, q.1⟩)) ask
      · exact chm_no cn ask
    exact ⟨rr (by omega), fun _ => hR m _ no, fun q => absurd rfl q⟩
theorem ct_X11_stop : Ct mX11_stop 3 65 0 0 (nrmS S_X11_stop) := by
  refine ct_vm (own := RX11) (by decide +kernel) rfl ?_ ?_
  · intro as μ Q hS
    unfold S_X11_stop at hS
    split at hS
    · exact Nat.le_of_ble_eq_true rfl
    · exact hS.elim
  · intro as μ R hS
    unfold S_X11_stop at hS
    split at hS
    · exact body_X11_stop hS.1 hS.2
    · exact hS.elim
def P_X11_diary (o n a : Int) (μ : Mem) : Prop := o = 201 ∧ SOk (stM μ) ∧ r32 n ∧ r32 a
def Q_X11_diary (_ n a : Int) (μ μ' : Mem) (r : Int) : Prop := ChgM (chgT (stM μ) n (-1) (fun v => decide ((0 ≤ a ∧ a < v 0 0) ∧ v 12 0 < 7)) (diaryF a) (fun v => v 12 0 + 1)) μ μ' r
def S_X11_diary : S0t := fun as μ Q => match as with
  | [(2, x0), (0, x1), (0, x2)] => P_X11_diary x0 x1 x2 μ ∧ ∀ (μ' : Mem) (r : Int), Q_X11_diary x0 x1 x2 μ μ' r → Q μ' (some (kI r))
  | _ => False
theorem mono_X11_diary : Mono S_X11_diary := by
  intro as μ Q Q' h hS
  unfold S_X11_diary at hS ⊢
  split at hS
  · exact ⟨hS.1, fun μ' r q => h _ _ (hS.2 _ _ q)⟩
  · exact hS.elim
def iX11_diary : Inf := (kX11_diary, fTX11, pTX11, cTX11, lTX11, sTX11, [(219, 0, 1, 11, S_X11_isTown), (231, 0, 1, 11, S_X11_isPlace), (209, 0, 1, 11, S_X11_of)])
theorem ok_X11_diary : infOK iX11_diary mX11_diary RX11 2 43 := ⟨kkX11_diary, fTX11_ok, pTX11_ok _, cTX11_ok, lTX11_ok, sTX11_ok, c_cons ⟨mX11_isTown, 1, 22, ct_X11_isTown, mmX11_isTown, vvX11_isTown, lkX11_219, ⟨by decide, by decide⟩, ⟨_, _, rfl⟩, by decide, mono_X11_isTown⟩ (c_cons ⟨mX11_isPlace, 1, 22, ct_X11_isPlace, mmX11_isPlace, vvX11_isPlace, lkX11_231, ⟨by decide, by decide⟩, ⟨_, _, rfl⟩, by decide, mono_X11_isPlace⟩ (c_cons ⟨mX11_of, 0, 0, ct_X11_of, mmX11_of, vvX11_of, lkX11_209, ⟨by decide, by decide⟩, ⟨_, _, rfl⟩, by decide, mono_X11_of⟩ (c_nil)))⟩
theorem mt_X11_diary : mtOK [] RX11 2 43 := mt_nil
abbrev V_X11_diary (R : Mem → Option AV → Prop) (pc : Nat) (lc : List (Nat × AV)) (μ : Mem) : Prop := VM mX11_diary RX11 2 43 R pc lc [] μ
set_option maxRecDepth 20000 in
theorem vc_X11_diary_0 {R : Mem → Option AV → Prop} {n a : Int} {μ : Mem} (H : P_X11_isTown 201 n μ ∧ (∀ (μ1 : Mem) (rv2 : Int), Q_X11_isTown 201 n μ μ1 rv2 → r32 rv2 ∧ ((rv2 = 0) → R μ1 (some (kI (-1)))) ∧ (¬ (rv2 = 0) → P_X11_isPlace 201 a μ1 ∧ r32 (F_X11_isPlace 201 a μ1) ∧ (((F_X11_isPlace 201 a μ1) = 0) → R μ1 (some (kI (-1)))) ∧ (¬ ((F_X11_isPlace 201 a μ1) = 0) → P_X11_of 201 250 μ1 ∧ r32 (F_X11_of 201 250 μ1) ∧ ((¬ (F_X11_of 201 250 μ1) = (7 : Int)) → P_X11_of 201 250 μ1 ∧ (0 ≤ ((((μ1 201 12) + 250) + 1) + (F_X11_of 201 250 μ1)) ∧ ((((μ1 201 12) + 250) + 1) + (F_X11_of 201 250 μ1)) < 5160) ∧ V_X11_diary R 54 [(0, kR 201)] (updm μ1 202 ((((μ1 201 12) + 250) + 1) + (F_X11_of 201 250 μ1)) a)) ∧ (¬ (¬ (F_X11_of 201 250 μ1) = (7 : Int)) → R μ1 (some (kI (-1)))))))) : V_X11_diary R 0 [(0, kR 201), (1, kI n), (2, kI a)] μ := by
  refine vm_step2 mt_X11_diary ok_X11_diary [(54, [0]), (71, [0])] 1000 ?_
  show isC 201 11 ∧ P_X11_isTown 201 n μ ∧ (∀ (μ1 : Mem) (rv2 : Int), Q_X11_isTown 201 n μ μ1 rv2 → r32 rv2 ∧ ((rv2 = 0) → R μ1 (some (kI (-1)))) ∧ (¬ (rv2 = 0) → isC 201 11 ∧ P_X11_isPlace 201 a μ1 ∧ r32 (F_X11_isPlace 201 a μ1) ∧ (((F_X11_isPlace 201 a μ1) = 0) → R μ1 (some (kI (-1)))) ∧ (¬ ((F_X11_isPlace 201 a μ1) = 0) → isC 201 11 ∧ P_X11_of 201 250 μ1 ∧ (r32 (F_X11_of 201 250 μ1) ∧ r32 (7 : Int)) ∧ ((¬ (F_X11_of 201 250 μ1) = (7 : Int)) → isC 201 11 ∧ isC 201 11 ∧ isC 201 11 ∧ P_X11_of 201 250 μ1 ∧ inA 202 0 ((((μ1 201 12) + 250) + 1) + (F_X11_of 201 250 μ1)) ∧ V_X11_diary R 54 [(0, kR 201)] (updm μ1 202 ((((μ1 201 12) + 250) + 1) + (F_X11_of 201 250 μ1)) a)) ∧ (¬ (¬ (F_X11_of 201 250 μ1) = (7 : Int)) → R μ1 (some (kI (-1)))))))
  exact ⟨c_201, H.1, fun μ1 rv2 hq3 => ⟨(H.2 μ1 rv2 hq3).1, fun hc6 => ((H.2 μ1 rv2 hq3).2.1 hc6), fun hc6 => ⟨c_201, ((H.2 μ1 rv2 hq3).2.2 hc6).1, ⟨((H.2 μ1 rv2 hq3).2.2 hc6).2.1, fun hc5 => (((H.2 μ1 rv2 hq3).2.2 hc6).2.2.1 hc5), fun hc5 => ⟨c_201, (((H.2 μ1 rv2 hq3).2.2 hc6).2.2.2 hc5).1, ⟨⟨(((H.2 μ1 rv2 hq3).2.2 hc6).2.2.2 hc5).2.1, by unfold r32; omega⟩, fun hc4 => ⟨c_201, ⟨c_201, ⟨c_201, ((((H.2 μ1 rv2 hq3).2.2 hc6).2.2.2 hc5).2.2.1 hc4).1, ⟨isArr.in a_202 ((((H.2 μ1 rv2 hq3).2.2 hc6).2.2.2 hc5).2.2.1 hc4).2.1.1 ((((H.2 μ1 rv2 hq3).2.2 hc6).2.2.2 hc5).2.2.1 hc4).2.1.2, ((((H.2 μ1 rv2 hq3).2.2 hc6).2.2.2 hc5).2.2.1 hc4).2.2⟩⟩⟩⟩, fun hc4 => ((((H.2 μ1 rv2 hq3).2.2 hc6).2.2.2 hc5).2.2.2 hc4)⟩⟩⟩⟩⟩⟩
set_option maxRecDepth 20000 in
theorem vc_X11_diary_54 {R : Mem → Option AV → Prop} {μ : Mem} (H : (0 ≤ ((μ 201 12) + 250) ∧ ((μ 201 12) + 250) < 5160) ∧ (0 ≤ ((μ 201 12) + 250) ∧ ((μ 201 12) + 250) < 5160) ∧ V_X11_diary R 71 [(0, kR 201)] (updm μ 202 ((μ 201 12) + 250) ((μ 202 ((μ 201 12) + 250)) + 1))) : V_X11_diary R 54 [(0, kR 201)] μ := by
  refine vm_step2 mt_X11_diary ok_X11_diary [(54, [0]), (71, [0])] 1000 ?_
  show isC 201 11 ∧ isC 201 11 ∧ inA 202 0 ((μ 201 12) + 250) ∧ inA 202 0 ((μ 201 12) + 250) ∧ V_X11_diary R 71 [(0, kR 201)] (updm μ 202 ((μ 201 12) + 250) ((μ 202 ((μ 201 12) + 250)) + 1))
  exact ⟨c_201, ⟨c_201, ⟨isArr.in a_202 H.1.1 H.1.2, ⟨isArr.in a_202 H.2.1.1 H.2.1.2, H.2.2⟩⟩⟩⟩
set_option maxRecDepth 20000 in
theorem vc_X11_diary_71 {R : Mem → Option AV → Prop} {μ : Mem} (H : P_X11_of 201 250 μ ∧ R μ (some (kI (F_X11_of 201 250 μ)))) : V_X11_diary R 71 [(0, kR 201)] μ := by
  refine vm_step2 mt_X11_diary ok_X11_diary [(54, [0]), (71, [0])] 1000 ?_
  show isC 201 11 ∧ P_X11_of 201 250 μ ∧ R μ (some (kI (F_X11_of 201 250 μ)))
  exact ⟨c_201, H.1, H.2⟩
theorem body_X11_diary {o n a : Int} {μ : Mem} {R : Mem → Option AV → Prop} (h : P_X11_diary o n a μ) (hR : ∀ (μ' : Mem) (r : Int), Q_X11_diary o n a μ μ' r → R μ' (some (kI r))) : V_X11_diary R 0 [(0, kR o), (1, kI n), (2, kI a)] μ := by
  obtain ⟨rfl, hs, r_n, r_a⟩ := h
  have ht3 := hs.1.2.1
  rw [mn_3] at ht3
  refine vc_X11_diary_0 ⟨⟨rfl, hs, r_n⟩, fun m rv q => ?_⟩
  obtain ⟨q1, q2, q3, q4⟩ := q
  have ask : AskM μ m := fun z hz => q1 z (by omega)
  by_cases c : 0 ≤ n ∧ n < μ 202 0
  · obtain ⟨rfl, hb, hv, h12⟩ := q4 c
    have cn : 0 ≤ n ∧ n < μ 202 0 := c
    have ok := hb.v
    have hp := hb.p
    have hpe := hb.2.1
    have w8 := ok.2.2.2.2.2.2.2.1
    have ws := ok.2.2.2.2.2.2.2.2.1
    have dd := ok.2.2.2.2.2.2.2.2.2.1
    have e2 : m 202 = μ 202 := q1 202 (by omega)
    have evm : vm m = tmF (μ 202) (510 + 260 * n) := by unfold vm; rw [e2, h12]
    have f8 := v8_ m
    have f12 := v12_ m
    rw [h12, e2] at f8 f12
    refine ⟨rr (by omega), fun q => absurd q (by omega), fun _ => ?_⟩
    have ir := isPlace_r (o := 201) (a := a) (μ := m)
    have e12 : F_X11_of 201 250 m = vm m 12 0 := rfl
    rw [e12, h12]
    refine ⟨⟨rfl, hb, r_a⟩, rr (by omega), fun d => hR m _ (chm_p0 (by rw [← hv]; exact decide_eq_false (fun q => isPlace_1.mpr q.1 d)) ask), fun d => ⟨⟨rfl, hb.1, by omega, by omega⟩, rr (by omega), fun d2 => ⟨⟨rfl, hb.1, by omega, by omega⟩, by omega, ?_⟩, fun d2 => hR m _ (chm_p0 (by rw [← hv]; exact decide_eq_false (fun q => by have := q.2; omega)) ask)⟩⟩
    have da := isPlace_1.mp d
    obtain ⟨m1, em1⟩ : ∃ x, x = updm m 202 (510 + 260 * n + 250 + 1 + vm m 12 0) a := ⟨_, rfl⟩
    rw [← em1]
    have g12 : m1 201 12 = 510 + 260 * n := by rw [em1, ru_ne (by omega), h12]
    have g250 : m1 202 (510 + 260 * n + 250) = vm m 12 0 := by rw [em1, ru_eq, r1_ne (by omega), e2]; exact f12.symm
    refine vc_X11_diary_54 ?_
    rw [g12, g250]
    refine ⟨by omega, by omega, ?_⟩
    obtain ⟨m3, em3⟩ : ∃ x, x = updm m1 202 (510 + 260 * n + 250) (vm m 12 0 + 1) := ⟨_, rfl⟩
    rw [← em3]
    have k12 : m3 201 12 = 510 + 260 * n := by rw [em3, ru_ne (by omega), g12]
    have k250 : m3 202 (510 + 260 * n + 250) = vm m 12 0 + 1 := by rw [em3, ru_eq, r1_eq]
    have kj : ∀ j : Int, j ≠ 510 + 260 * n + 250 → j ≠ 510 + 260 * n + 250 + 1 + vm m 12 0 → m3 202 j = μ 202 j := fun j j1 j2 => by rw [em3, ru_eq, r1_ne j1, em1, ru_eq, r1_ne j2, e2]
    have kb : m3 202 (510 + 260 * n + 251 + vm m 12 0) = a := by rw [em3, ru_eq, r1_ne (by omega), em1, ru_eq, show 510 + 260 * n + 251 + vm m 12 0 = 510 + 260 * n + 250 + 1 + vm m 12 0 by omega, r1_eq]
    have kz : ∀ z : Int, z ≠ 202 → m3 z = m z := fun z hz => by rw [em3, ru_ne hz, em1, ru_ne hz]
    have e12' : F_X11_of 201 250 m3 = vm m 12 0 + 1 := by unfold F_X11_of; rw [k12, k250]
    refine vc_X11_diary_71 ⟨⟨rfl, by omega, by omega, by omega⟩, hR m3 _ (chm_yes hs cn (by rw [← hv]; exact decide_eq_true ⟨da, by omega⟩) (fun j hj => kj j (by omega) (by omega)) (by rw [kz 203 (by omega), q1 203 (by omega)]) (fun z hz => by rw [kz z (by omega), q1 z (by omega)]) ?_ (by rw [e12', ← hv]))⟩
    rw [tm_set (f := μ 202) (fun j j0 j1 j2 => kj j (by omega) (by omega)), kj (510 + 260 * n + 4) (by omega) (by omega), k250, ← evm, ← hv]
    unfold diaryF
    refine setF_eq f8.symm ?_ ?_ ?_ rfl ?_
    · have e9 : vm m 9 = clip (vm m 8 0) (fun w => μ 202 (510 + 260 * n + 104 + 18 * w)) := by rw [evm]; rfl
      rw [e9, ← f8]
      exact clip_ext fun j j0 j1 => kj _ (by omega) (by omega)
    · have e10 : vm m 10 = clip (vm m 8 0) (fun w => μ 202 (510 + 260 * n + 105 + 18 * w)) := by rw [evm]; rfl
      rw [e10, ← f8]
      exact clip_ext fun j j0 j1 => kj _ (by omega) (by omega)
    · have e11 : vm m 11 = fun j => if 0 ≤ j ∧ j / 16 < μ 202 (510 + 260 * n + 4) ∧ j % 16 < μ 202 (510 + 260 * n + 104 + 18 * (j / 16)) then μ 202 (510 + 260 * n + 106 + 18 * (j / 16) + j % 16) else 0 := by rw [evm]; rfl
      rw [e11]
      funext j
      by_cases cj : 0 ≤ j ∧ j / 16 < μ 202 (510 + 260 * n + 4)
      · have cl : 0 ≤ j ∧ j / 16 < vm m 8 0 := by omega
        rw [kj (510 + 260 * n + 104 + 18 * (j / 16)) (by omega) (by omega)]
        by_cases cs : j % 16 < μ 202 (510 + 260 * n + 104 + 18 * (j / 16))
        · rw [if_pos ⟨cj.1, cj.2, cs⟩, if_pos ⟨cj.1, cj.2, cs⟩, kj _ (by omega) (by omega)]
        · rw [if_neg (fun q => cs q.2.2), if_neg (fun q => cs q.2.2)]
      · rw [if_neg (fun q => cj ⟨q.1, q.2.1⟩), if_neg (fun q => cj ⟨q.1, q.2.1⟩)]
    · have e13 : ∀ j : Int, vm m 13 j = clip (vm m 12 0) (fun i => μ 202 (510 + 260 * n + 251 + i)) j := fun j => by rw [evm]; rfl
      funext j
      by_cases ej : j = vm m 12 0
      · rw [ej, r1_eq, clip_in (by omega) (by omega), kb]
      · rw [r1_ne ej, e13 j]
        unfold clip
        by_cases cj : 0 ≤ j ∧ j < vm m 12 0
        · rw [if_pos cj, if_pos (by omega)]
          exact kj _ (by omega) (by omega)
        · rw [if_neg cj, if_neg (by omega)]
  · have e := q3 c
    subst e
    have no : Q_X11_diary 201 n a μ m (-1) := chm_no c ask
    exact ⟨rr (by omega), fun _ => hR m _ no, fun q => absurd rfl q⟩
theorem ct_X11_diary : Ct mX11_diary 2 43 0 0 (nrmS S_X11_diary) := by
  refine ct_vm (own := RX11) (by decide +kernel) rfl ?_ ?_
  · intro as μ Q hS
    unfold S_X11_diary at hS
    split at hS
    · exact Nat.le_of_ble_eq_true rfl
    · exact hS.elim
  · intro as μ R hS
    unfold S_X11_diary at hS
    split at hS
    · exact body_X11_diary hS.1 hS.2
    · exact hS.elim
def P_X11_forget (o n : Int) (μ : Mem) : Prop := o = 201 ∧ SOk (stM μ) ∧ r32 n
def Q_X11_forget (_ n : Int) (μ μ' : Mem) (r : Int) : Prop := ChgM (chgT (stM μ) n (0) (fun v => decide (v 12 0 ≠ 0)) forgetF (fun _ => 1)) μ μ' r
def S_X11_forget : S0t := fun as μ Q => match as with
  | [(2, x0), (0, x1)] => P_X11_forget x0 x1 μ ∧ ∀ (μ' : Mem) (r : Int), Q_X11_forget x0 x1 μ μ' r → Q μ' (some (kI r))
  | _ => False
theorem mono_X11_forget : Mono S_X11_forget := by
  intro as μ Q Q' h hS
  unfold S_X11_forget at hS ⊢
  split at hS
  · exact ⟨hS.1, fun μ' r q => h _ _ (hS.2 _ _ q)⟩
  · exact hS.elim
def iX11_forget : Inf := (kX11_forget, fTX11, pTX11, cTX11, lTX11, sTX11, [(219, 0, 1, 11, S_X11_isTown), (209, 0, 1, 11, S_X11_of)])
theorem ok_X11_forget : infOK iX11_forget mX11_forget RX11 2 43 := ⟨kkX11_forget, fTX11_ok, pTX11_ok _, cTX11_ok, lTX11_ok, sTX11_ok, c_cons ⟨mX11_isTown, 1, 22, ct_X11_isTown, mmX11_isTown, vvX11_isTown, lkX11_219, ⟨by decide, by decide⟩, ⟨_, _, rfl⟩, by decide, mono_X11_isTown⟩ (c_cons ⟨mX11_of, 0, 0, ct_X11_of, mmX11_of, vvX11_of, lkX11_209, ⟨by decide, by decide⟩, ⟨_, _, rfl⟩, by decide, mono_X11_of⟩ (c_nil))⟩
theorem mt_X11_forget : mtOK [] RX11 2 43 := mt_nil
abbrev V_X11_forget (R : Mem → Option AV → Prop) (pc : Nat) (lc : List (Nat × AV)) (μ : Mem) : Prop := VM mX11_forget RX11 2 43 R pc lc [] μ
set_option maxRecDepth 20000 in
theorem vc_X11_forget_0 {R : Mem → Option AV → Prop} {n : Int} {μ : Mem} (H : P_X11_isTown 201 n μ ∧ (∀ (μ1 : Mem) (rv2 : Int), Q_X11_isTown 201 n μ μ1 rv2 → r32 rv2 ∧ ((rv2 = 0) → R μ1 (some (kI 0))) ∧ (¬ (rv2 = 0) → P_X11_of 201 250 μ1 ∧ r32 (F_X11_of 201 250 μ1) ∧ ((¬ (F_X11_of 201 250 μ1) = 0) → (0 ≤ ((μ1 201 12) + 250) ∧ ((μ1 201 12) + 250) < 5160) ∧ V_X11_forget R 34 [] (updm μ1 202 ((μ1 201 12) + 250) 0)) ∧ (¬ (¬ (F_X11_of 201 250 μ1) = 0) → R μ1 (some (kI 0)))))) : V_X11_forget R 0 [(0, kR 201), (1, kI n)] μ := by
  refine vm_step2 mt_X11_forget ok_X11_forget [(34, [])] 1000 ?_
  show isC 201 11 ∧ P_X11_isTown 201 n μ ∧ (∀ (μ1 : Mem) (rv2 : Int), Q_X11_isTown 201 n μ μ1 rv2 → r32 rv2 ∧ ((rv2 = 0) → (0 ≤ (0 : Int) ∧ (0 : Int) ≤ 1) ∧ R μ1 (some (kI 0))) ∧ (¬ (rv2 = 0) → isC 201 11 ∧ P_X11_of 201 250 μ1 ∧ r32 (F_X11_of 201 250 μ1) ∧ ((¬ (F_X11_of 201 250 μ1) = 0) → isC 201 11 ∧ isC 201 11 ∧ inA 202 0 ((μ1 201 12) + 250) ∧ V_X11_forget R 34 [] (updm μ1 202 ((μ1 201 12) + 250) 0)) ∧ (¬ (¬ (F_X11_of 201 250 μ1) = 0) → (0 ≤ (0 : Int) ∧ (0 : Int) ≤ 1) ∧ R μ1 (some (kI 0)))))
  exact ⟨c_201, H.1, fun μ1 rv2 hq3 => ⟨(H.2 μ1 rv2 hq3).1, fun hc5 => ⟨⟨by omega, by omega⟩, ((H.2 μ1 rv2 hq3).2.1 hc5)⟩, fun hc5 => ⟨c_201, ((H.2 μ1 rv2 hq3).2.2 hc5).1, ⟨((H.2 μ1 rv2 hq3).2.2 hc5).2.1, fun hc4 => ⟨c_201, ⟨c_201, ⟨isArr.in a_202 (((H.2 μ1 rv2 hq3).2.2 hc5).2.2.1 hc4).1.1 (((H.2 μ1 rv2 hq3).2.2 hc5).2.2.1 hc4).1.2, (((H.2 μ1 rv2 hq3).2.2 hc5).2.2.1 hc4).2⟩⟩⟩, fun hc4 => ⟨⟨by omega, by omega⟩, (((H.2 μ1 rv2 hq3).2.2 hc5).2.2.2 hc4)⟩⟩⟩⟩⟩
set_option maxRecDepth 20000 in
theorem vc_X11_forget_34 {R : Mem → Option AV → Prop} {μ : Mem} (H : R μ (some (kI 1))) : V_X11_forget R 34 [] μ := by
  refine vm_step2 mt_X11_forget ok_X11_forget [(34, [])] 1000 ?_
  show (0 ≤ (1 : Int) ∧ (1 : Int) ≤ 1) ∧ R μ (some (kI 1))
  exact ⟨⟨by omega, by omega⟩, H⟩
theorem body_X11_forget {o n : Int} {μ : Mem} {R : Mem → Option AV → Prop} (h : P_X11_forget o n μ) (hR : ∀ (μ' : Mem) (r : Int), Q_X11_forget o n μ μ' r → R μ' (some (kI r))) : V_X11_forget R 0 [(0, kR o), (1, kI n)] μ := by
  obtain ⟨rfl, hs, r_n⟩ := h
  have ht3 := hs.1.2.1
  rw [mn_3] at ht3
  refine vc_X11_forget_0 ⟨⟨rfl, hs, r_n⟩, fun m rv q => ?_⟩
  obtain ⟨q1, q2, q3, q4⟩ := q
  have ask : AskM μ m := fun z hz => q1 z (by omega)
  by_cases c : 0 ≤ n ∧ n < μ 202 0
  · obtain ⟨rfl, hb, hv, h12⟩ := q4 c
    have cn : 0 ≤ n ∧ n < μ 202 0 := c
    have ok := hb.v
    have hp := hb.p
    have hpe := hb.2.1
    have w8 := ok.2.2.2.2.2.2.2.1
    have ws := ok.2.2.2.2.2.2.2.2.1
    have dd := ok.2.2.2.2.2.2.2.2.2.1
    have e2 : m 202 = μ 202 := q1 202 (by omega)
    have evm : vm m = tmF (μ 202) (510 + 260 * n) := by unfold vm; rw [e2, h12]
    have f8 := v8_ m
    have f12 := v12_ m
    rw [h12, e2] at f8 f12
    refine ⟨rr (by omega), fun q => absurd q (by omega), fun _ => ?_⟩
    have e12 : F_X11_of 201 250 m = vm m 12 0 := rfl
    rw [e12, h12]
    refine ⟨⟨rfl, hb.1, by omega, by omega⟩, rr (by omega), fun d => ⟨by omega, ?_⟩, fun d => hR m _ (chm_p0 (by rw [← hv]; exact decide_eq_false d) ask)⟩
    obtain ⟨m3, em3⟩ : ∃ x, x = updm m 202 (510 + 260 * n + 250) 0 := ⟨_, rfl⟩
    rw [← em3]
    have k250 : m3 202 (510 + 260 * n + 250) = 0 := by rw [em3, ru_eq, r1_eq]
    have kj : ∀ j : Int, j ≠ 510 + 260 * n + 250 → m3 202 j = μ 202 j := fun j j1 => by rw [em3, ru_eq, r1_ne j1, e2]
    have kz : ∀ z : Int, z ≠ 202 → m3 z = m z := fun z hz => by rw [em3, ru_ne hz]
    refine vc_X11_forget_34 (hR m3 _ (chm_yes hs cn (by rw [← hv]; exact decide_eq_true d) (fun j hj => kj j (by omega)) (by rw [kz 203 (by omega), q1 203 (by omega)]) (fun z hz => by rw [kz z (by omega), q1 z (by omega)]) ?_ rfl))
    rw [tm_set (f := μ 202) (fun j j0 j1 j2 => kj j (by omega)), kj (510 + 260 * n + 4) (by omega), k250, ← evm, ← hv]
    unfold forgetF
    refine setF_eq f8.symm ?_ ?_ ?_ rfl ?_
    · have e9 : vm m 9 = clip (vm m 8 0) (fun w => μ 202 (510 + 260 * n + 104 + 18 * w)) := by rw [evm]; rfl
      rw [e9, ← f8]
      exact clip_ext fun j j0 j1 => kj _ (by omega)
    · have e10 : vm m 10 = clip (vm m 8 0) (fun w => μ 202 (510 + 260 * n + 105 + 18 * w)) := by rw [evm]; rfl
      rw [e10, ← f8]
      exact clip_ext fun j j0 j1 => kj _ (by omega)
    · have e11 : vm m 11 = fun j => if 0 ≤ j ∧ j / 16 < μ 202 (510 + 260 * n + 4) ∧ j % 16 < μ 202 (510 + 260 * n + 104 + 18 * (j / 16)) then μ 202 (510 + 260 * n + 106 + 18 * (j / 16) + j % 16) else 0 := by rw [evm]; rfl
      rw [e11]
      funext j
      by_cases cj : 0 ≤ j ∧ j / 16 < μ 202 (510 + 260 * n + 4)
      · have cl : 0 ≤ j ∧ j / 16 < vm m 8 0 := by omega
        rw [kj (510 + 260 * n + 104 + 18 * (j / 16)) (by omega)]
        by_cases cs : j % 16 < μ 202 (510 + 260 * n + 104 + 18 * (j / 16))
        · rw [if_pos ⟨cj.1, cj.2, cs⟩, if_pos ⟨cj.1, cj.2, cs⟩, kj _ (by omega)]
        · rw [if_neg (fun q => cs q.2.2), if_neg (fun q => cs q.2.2)]
      · rw [if_neg (fun q => cj ⟨q.1, q.2.1⟩), if_neg (fun q => cj ⟨q.1, q.2.1⟩)]
    · exact clip_0
  · have e := q3 c
    subst e
    have no : Q_X11_forget 201 n μ m (0) := chm_no c ask
    exact ⟨rr (by omega), fun _ => hR m _ no, fun q => absurd rfl q⟩
theorem ct_X11_forget : Ct mX11_forget 2 43 0 0 (nrmS S_X11_forget) := by
  refine ct_vm (own := RX11) (by decide +kernel) rfl ?_ ?_
  · intro as μ Q hS
    unfold S_X11_forget at hS
    split at hS
    · exact Nat.le_of_ble_eq_true rfl
    · exact hS.elim
  · intro as μ R hS
    unfold S_X11_forget at hS
    split at hS
    · exact body_X11_forget hS.1 hS.2
    · exact hS.elim
