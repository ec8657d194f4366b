/-! rows of days, counted up like numbers with p signs -/
def dg (p : Int) : Nat → Int → Int → Int
  | 0, _, _ => 0
  | m + 1, N, j => if j = m then N % p else dg p m (N / p) j
def nv (p : Int) (r : Int → Int) (m : Int) : Int := fold (fun s j => s * p + r j) 0 m
def pw (p : Int) (m : Int) : Int := fold (fun s _ => s * p) 1 m
theorem nv_s {p : Int} {r : Int → Int} {m : Int} (h : 0 ≤ m) : nv p r (m + 1) = nv p r m * p + r m := fold_s h
theorem pw_s {p m : Int} (h : 0 ≤ m) : pw p (m + 1) = pw p m * p := fold_s h
theorem nv_congr {p : Int} {r r' : Int → Int} {m : Int} (h : ∀ j, 0 ≤ j → j < m → r j = r' j) : nv p r m = nv p r' m := fold_congr fun y j j0 j1 => by rw [h j j0 j1]
theorem dg_nv {p : Int} {r : Int → Int} (hp : 0 < p) : ∀ (m : Nat), (∀ j : Int, 0 ≤ j → j < m → 0 ≤ r j ∧ r j < p) → ∀ j : Int, 0 ≤ j → j < m → dg p m (nv p r m) j = r j
  | 0, _, j, h0, h1 => absurd h1 (by simp; omega)
  | m + 1, h, j, h0, h1 => by
    have e : ((m + 1 : Nat) : Int) = (m : Int) + 1 := by omega
    rw [e, nv_s (by omega)]
    have hm := h m (by omega) (by omega)
    unfold dg
    have e1 : (nv p r m * p + r m) % p = r m := by rw [Int.add_comm, Int.add_mul_emod_self_right]; exact Int.emod_eq_of_lt hm.1 hm.2
    have e2 : (nv p r m * p + r m) / p = nv p r m := by
      rw [Int.add_comm, Int.add_mul_ediv_right _ _ (by omega), Int.ediv_eq_zero_of_lt hm.1 hm.2]; omega
    by_cases hj : j = m
    · rw [if_pos hj, e1, hj]
    · rw [if_neg hj, e2]
      exact dg_nv hp m (fun j j0 j1 => h j j0 (by omega)) j h0 (by omega)
theorem dg_bd {p : Int} (hp : 0 < p) : ∀ (m : Nat) (N j : Int), 0 ≤ dg p m N j ∧ dg p m N j < p
  | 0, _, _ => ⟨Int.le_refl _, hp⟩
  | m + 1, N, j => by
    unfold dg
    by_cases hj : j = m
    · rw [if_pos hj]; exact ⟨Int.emod_nonneg _ (by omega), Int.emod_lt_of_pos _ hp⟩
    · rw [if_neg hj]; exact dg_bd hp m _ _
theorem dg_last {p : Int} {m : Nat} {i a : Int} (h0 : 0 ≤ a) (h1 : a < p) (j : Int) : dg p (m + 1) (i * p + a) j = if j = m then a else dg p m i j := by
  show (if j = m then (i * p + a) % p else dg p m ((i * p + a) / p) j) = _
  have e1 : (i * p + a) % p = a := by rw [Int.add_comm, Int.add_mul_emod_self_right]; exact Int.emod_eq_of_lt h0 h1
  have e2 : (i * p + a) / p = i := by rw [Int.add_comm, Int.add_mul_ediv_right _ _ (by omega), Int.ediv_eq_zero_of_lt h0 h1]; omega
  rw [e1, e2]
theorem nv_last {p : Int} {r : Int → Int} {m : Int} (h0 : 0 ≤ m) (h : ∀ j : Int, 0 ≤ j → j < m → r j = p - 1) : nv p r m = pw p m - 1 := by
  have key : ∀ k : Nat, (∀ j : Int, 0 ≤ j → j < k → r j = p - 1) → nv p r k = pw p k - 1 := by
    intro k
    induction k with
    | zero => intro _; rfl
    | succ k ih =>
      intro h
      have e : ((k + 1 : Nat) : Int) = (k : Int) + 1 := by omega
      rw [e, nv_s (by omega), pw_s (by omega), ih (fun j j0 j1 => h j j0 (by omega)), h k (by omega) (by omega), Int.sub_mul]
      omega
  have := key m.toNat (by rwa [Int.toNat_of_nonneg h0])
  rwa [Int.toNat_of_nonneg h0] at this
theorem nv_next {p : Int} {r r' : Int → Int} {c m : Int} (c0 : 0 ≤ c) (c1 : c < m) (he : r' c = r c + 1) (hb : ∀ j : Int, j < c → r' j = r j) (ha : ∀ j : Int, c < j → j < m → r j = p - 1 ∧ r' j = 0) : nv p r' m = nv p r m + 1 := by
  have key : ∀ k : Nat, (∀ j : Int, c < j → j < c + 1 + k → r j = p - 1 ∧ r' j = 0) → nv p r' (c + 1 + k) = nv p r (c + 1 + k) + 1 := by
    intro k
    induction k with
    | zero =>
      intro _
      have e : c + 1 + ((0 : Nat) : Int) = c + 1 := by omega
      rw [e, nv_s c0, nv_s c0, nv_congr (r := r') (r' := r) (fun j _ j1 => hb j j1), he]
      omega
    | succ k ih =>
      intro h
      have e : c + 1 + ((k + 1 : Nat) : Int) = c + 1 + (k : Int) + 1 := by omega
      have hk := h (c + 1 + k) (by omega) (by omega)
      rw [e, nv_s (by omega), nv_s (by omega), ih (fun j j0 j1 => h j j0 (by omega)), hk.1, hk.2, Int.add_mul]
      omega
  have := key (m - c - 1).toNat (fun j j0 j1 => ha j j0 (by omega))
  have e : c + 1 + ((m - c - 1).toNat : Int) = m := by omega
  rwa [e] at this
theorem nv_bd {p : Int} {r : Int → Int} (hp : 0 < p) {m : Int} (h0 : 0 ≤ m) (h : ∀ j : Int, 0 ≤ j → j < m → 0 ≤ r j ∧ r j < p) : 0 ≤ nv p r m ∧ nv p r m < pw p m := by
  have key : ∀ k : Nat, (∀ j : Int, 0 ≤ j → j < k → 0 ≤ r j ∧ r j < p) → 0 ≤ nv p r k ∧ nv p r k < pw p k := by
    intro k
    induction k with
    | zero => intro _; show (0 : Int) ≤ 0 ∧ (0 : Int) < 1; omega
    | succ k ih =>
      intro h
      have e : ((k + 1 : Nat) : Int) = (k : Int) + 1 := by omega
      rw [e, nv_s (by omega), pw_s (by omega)]
      have i := ih (fun j j0 j1 => h j j0 (by omega))
      have hk := h k (by omega) (by omega)
      have h1 := Int.mul_nonneg i.1 (show 0 ≤ p by omega)
      have h2 : (nv p r k + 1) * p ≤ pw p k * p := Int.mul_le_mul_of_nonneg_right (by omega) (by omega)
      rw [Int.add_mul] at h2
      omega
  have := key m.toNat (by rwa [Int.toNat_of_nonneg h0])
  rwa [Int.toNat_of_nonneg h0] at this
theorem pw_bd {p : Int} (p0 : 1 ≤ p) (p1 : p ≤ 8) {m : Int} (m0 : 0 ≤ m) (m1 : m ≤ 4) : 1 ≤ pw p m ∧ pw p m ≤ 4096 := by
  have e0 : pw p 0 = 1 := rfl
  have e1 : pw p 1 = 1 * p := rfl
  have e2 : pw p 2 = 1 * p * p := rfl
  have e3 : pw p 3 = 1 * p * p * p := rfl
  have e4 : pw p 4 = 1 * p * p * p * p := rfl
  have a1 : 1 ≤ p * p ∧ p * p ≤ 64 := by
    have := Int.mul_le_mul p0 p0 (by omega) (by omega : (0 : Int) ≤ p)
    have := Int.mul_le_mul p1 p1 (by omega) (by omega : (0 : Int) ≤ 8)
    omega
  have a2 : 1 ≤ p * p * p ∧ p * p * p ≤ 512 := by
    have := Int.mul_le_mul a1.1 p0 (by omega) (by omega : (0 : Int) ≤ p * p)
    have := Int.mul_le_mul a1.2 p1 (by omega) (by omega : (0 : Int) ≤ 64)
    omega
  have a3 : 1 ≤ p * p * p * p ∧ p * p * p * p ≤ 4096 := by
    have := Int.mul_le_mul a2.1 p0 (by omega) (by omega : (0 : Int) ≤ p * p * p)
    have := Int.mul_le_mul a2.2 p1 (by omega) (by omega : (0 : Int) ≤ 512)
    omega
  have hm : m = 0 ∨ m = 1 ∨ m = 2 ∨ m = 3 ∨ m = 4 := by omega
  rcases hm with h | h | h | h | h <;> subst h
  · rw [e0]; omega
  · rw [e1, Int.one_mul]; omega
  · rw [e2, Int.one_mul]; omega
  · rw [e3, Int.one_mul]; omega
  · rw [e4, Int.one_mul]; omega
/-! a row of days: what lies where in the morning, what is found before, what it catches -/
def lieV (v : TV) (r : Int → Int) (d : Int) : Int → Int := fold (fun f d => lieS v (r d) f) (v 4) d
def fbV (v : TV) (r : Int → Int) (d : Int) : Int := fold (fun s d => (s + lieV v r d (r d) * v 5 (r d) * 12) * 12 * 12) 0 d
def totV (v : TV) (k : Int) (r : Int → Int) : Int := fbV v r (k - 1) + lieV v r (k - 1) (r (k - 1)) * v 5 (r (k - 1)) * 12
def chaF (v : TV) (k n : Int) : Int × Int := fold (fun x n => if x.1 < totV v k (dg (v 0 0) k.toNat n) then (totV v k (dg (v 0 0) k.toNat n), n) else x) (-1, -1) n
def chaV (v : TV) (k : Int) : Int × Int := chaF v k (pw (v 0 0) (k - 1) * v 0 0)
theorem chaF_s {v : TV} {k n : Int} (h : 0 ≤ n) : chaF v k (n + 1) = if (chaF v k n).1 < totV v k (dg (v 0 0) k.toNat n) then (totV v k (dg (v 0 0) k.toNat n), n) else chaF v k n := fold_s h
theorem lieV_s {v : TV} {r : Int → Int} {d : Int} (h : 0 ≤ d) : lieV v r (d + 1) = lieS v (r d) (lieV v r d) := fold_s h
theorem fbV_s {v : TV} {r : Int → Int} {d : Int} (h : 0 ≤ d) : fbV v r (d + 1) = (fbV v r d + lieV v r d (r d) * v 5 (r d) * 12) * 12 * 12 := fold_s h
theorem lieV_congr {v : TV} {r r' : Int → Int} {d : Int} (h : ∀ j, 0 ≤ j → j < d → r j = r' j) : lieV v r d = lieV v r' d := fold_congr fun y j j0 j1 => by rw [h j j0 j1]
theorem fbV_congr {v : TV} {r r' : Int → Int} {d : Int} (h : ∀ j, 0 ≤ j → j < d → r j = r' j) : fbV v r d = fbV v r' d := fold_congr fun y j j0 j1 => by rw [h j j0 j1, lieV_congr (r := r) (r' := r') (d := j) (fun i i0 i1 => h i i0 (by omega))]
theorem lieS_congr {v : TV} {x : Int} {f g : Int → Int} (h : ∀ b : Int, 0 ≤ b → b < v 0 0 → f b = g b) (a : Int) : lieS v x f a = lieS v x g a := night_congr (fun b b0 b1 => by unfold dayV; rw [h b b0 b1]) a
theorem mv_row {v : TV} (ok : TVok v) {a : Int} (a0 : 0 ≤ a) (a1 : a < v 0 0) : sm (mvV v a) (v 0 0) = 12 := by
  have hp := ok.1
  have hs := ok.2.2.2.2.2.2.1 a a a0 (by omega) a0 (by omega)
  have e : ∀ i : Int, 0 ≤ i → i < v 0 0 → mvV v a i = (if v 7 (8 * a + i) = 0 then 0 else 1) * v 3 0 + (if i = a then 12 - v 3 0 * lanesV v a else 0) := by
    intro i _ _
    unfold mvV
    by_cases h : a = i
    · subst h
      rw [if_pos rfl, if_pos rfl, if_pos hs.2.1]; omega
    · rw [if_neg h, if_neg (show ¬ i = a from fun q => h q.symm)]
      by_cases hz : v 7 (8 * a + i) = 0
      · rw [if_pos hz, if_pos hz]; omega
      · rw [if_neg hz, if_neg hz]; omega
  have el : sm (fun i => if v 7 (8 * a + i) = 0 then 0 else 1) (v 0 0) = lanesV v a := rfl
  rw [sm_congr e, sm_add (by omega), sm_mul (by omega), sm_one (by omega), if_pos ⟨a0, a1⟩, el, Int.mul_comm (v 3 0)]
  omega
theorem sm_le {f g : Int → Int} {n : Int} (h : ∀ i, 0 ≤ i → i < n → f i ≤ g i) (hn : 0 ≤ n) : sm f n ≤ sm g n := by
  have key : ∀ k : Nat, (∀ i, 0 ≤ i → i < (k : Int) → f i ≤ g i) → sm f k ≤ sm g k := by
    intro k
    induction k with
    | zero => intro _; exact Int.le_refl _
    | succ k ih =>
      intro h
      have e : ((k + 1 : Nat) : Int) = (k : Int) + 1 := by omega
      rw [e, sm_s (by omega), sm_s (by omega)]
      have := ih (fun i i0 i1 => h i i0 (by omega))
      have := h k (by omega) (by omega)
      omega
  have := key n.toNat (by rwa [Int.toNat_of_nonneg hn])
  rwa [Int.toNat_of_nonneg hn] at this
theorem sm_nn {f : Int → Int} {n : Int} (h : ∀ i, 0 ≤ i → i < n → 0 ≤ f i) (hn : 0 ≤ n) : 0 ≤ sm f n := by
  have := sm_le (f := fun _ => 0 * 0) (g := f) (n := n) (fun i i0 i1 => by rw [Int.zero_mul]; exact h i i0 i1) hn
  rw [sm_mul (f := fun _ => 0) hn] at this
  omega
theorem night_bd {v : TV} (ok : TVok v) (hc : calm v) {f : Int → Int} {B : Int} (h : ∀ b : Int, 0 ≤ b → b < v 0 0 → 0 ≤ f b ∧ f b ≤ B) {a : Int} (a0 : 0 ≤ a) (a1 : a < v 0 0) : 0 ≤ nightV v f a ∧ nightV v f a ≤ 12 * B := by
  have hp := ok.1
  constructor
  · exact sm_nn (fun b b0 b1 => Int.mul_nonneg (mvV_bd ok hc a0 a1).1 (h b b0 b1).1) (by omega)
  · have h1 : nightV v f a ≤ sm (fun b => mvV v a b * B) (v 0 0) := sm_le (fun b b0 b1 => Int.mul_le_mul_of_nonneg_left (h b b0 b1).2 (mvV_bd ok hc a0 a1).1) (by omega)
    rw [sm_mul (by omega), mv_row ok a0 a1] at h1
    exact h1
theorem day_bd {v : TV} (ok : TVok v) {f : Int → Int} {B x : Int} (h : ∀ b : Int, 0 ≤ b → b < v 0 0 → 0 ≤ f b ∧ f b ≤ B) {a : Int} (a0 : 0 ≤ a) (a1 : a < v 0 0) : 0 ≤ dayV v x f a ∧ dayV v x f a ≤ B * 12 := by
  have hp := ok.1
  have hd := (ok.2.2.2.1 a a0 (by omega)).2.1
  have hb := h a a0 a1
  unfold dayV
  exact mul_bd hb.1 hb.2 (by by_cases q : a = x <;> simp only [q, if_true, if_false] <;> (try subst q) <;> omega) (by by_cases q : a = x <;> simp only [q, if_true, if_false] <;> (try subst q) <;> omega)
theorem lieV_bd' {v : TV} (ok : TVok v) (hc : calm v) (r : Int → Int) : (∀ a : Int, 0 ≤ a → a < v 0 0 → 0 ≤ lieV v r 0 a ∧ lieV v r 0 a ≤ 99) ∧ (∀ a : Int, 0 ≤ a → a < v 0 0 → 0 ≤ lieV v r 1 a ∧ lieV v r 1 a ≤ 14256) ∧ (∀ a : Int, 0 ≤ a → a < v 0 0 → 0 ≤ lieV v r 2 a ∧ lieV v r 2 a ≤ 2052864) ∧ (∀ a : Int, 0 ≤ a → a < v 0 0 → 0 ≤ lieV v r 3 a ∧ lieV v r 3 a ≤ 295612416) ∧ (∀ a : Int, 0 ≤ a → a < v 0 0 → 0 ≤ lieV v r 4 a ∧ lieV v r 4 a ≤ 42568187904) := by
  have hp := ok.1
  have st : ∀ (x : Int) (f : Int → Int) (B : Int), (∀ b : Int, 0 ≤ b → b < v 0 0 → 0 ≤ f b ∧ f b ≤ B) → ∀ b : Int, 0 ≤ b → b < v 0 0 → 0 ≤ lieS v x f b ∧ lieS v x f b ≤ 12 * (B * 12) := fun x f B h b b0 b1 => night_bd ok hc (fun c c0 c1 => day_bd ok h c0 c1) b0 b1
  have h0 : ∀ b : Int, 0 ≤ b → b < v 0 0 → 0 ≤ lieV v r 0 b ∧ lieV v r 0 b ≤ 99 := fun b b0 b1 => (ok.2.2.2.1 b b0 (by omega)).1
  have h1 : ∀ b : Int, 0 ≤ b → b < v 0 0 → 0 ≤ lieV v r 1 b ∧ lieV v r 1 b ≤ 14256 := st (r 0) _ _ h0
  have h2 : ∀ b : Int, 0 ≤ b → b < v 0 0 → 0 ≤ lieV v r 2 b ∧ lieV v r 2 b ≤ 2052864 := st (r 1) _ _ h1
  have h3 : ∀ b : Int, 0 ≤ b → b < v 0 0 → 0 ≤ lieV v r 3 b ∧ lieV v r 3 b ≤ 295612416 := st (r 2) _ _ h2
  exact ⟨h0, h1, h2, h3, st (r 3) _ _ h3⟩
theorem lieV_bd {v : TV} (ok : TVok v) (hc : calm v) (r : Int → Int) {d : Int} (d0 : 0 ≤ d) (d1 : d ≤ 4) {a : Int} (a0 : 0 ≤ a) (a1 : a < v 0 0) : 0 ≤ lieV v r d a ∧ lieV v r d a ≤ 1000000000000 := by
  obtain ⟨h0, h1, h2, h3, h4⟩ := lieV_bd' ok hc r
  have hm : d = 0 ∨ d = 1 ∨ d = 2 ∨ d = 3 ∨ d = 4 := by omega
  rcases hm with h | h | h | h | h <;> subst h
  · have := h0 a a0 a1; omega
  · have := h1 a a0 a1; omega
  · have := h2 a a0 a1; omega
  · have := h3 a a0 a1; omega
  · have := h4 a a0 a1; omega
theorem fbV_bd {v : TV} (ok : TVok v) (hc : calm v) {r : Int → Int} {d : Int} (hr : ∀ j : Int, 0 ≤ j → j < d → 0 ≤ r j ∧ r j < v 0 0) (d0 : 0 ≤ d) (d1 : d ≤ 4) : 0 ≤ fbV v r d ∧ fbV v r d ≤ 100000000000000000 := by
  have hp := ok.1
  obtain ⟨h0, h1, h2, h3, h4⟩ := lieV_bd' ok hc r
  have st : ∀ i s : Int, 0 ≤ i → i < d → ∀ A B : Int, 0 ≤ s ∧ s ≤ B → 0 ≤ lieV v r i (r i) ∧ lieV v r i (r i) ≤ A → 0 ≤ (s + lieV v r i (r i) * v 5 (r i) * 12) * 12 * 12 ∧ (s + lieV v r i (r i) * v 5 (r i) * 12) * 12 * 12 ≤ (B + A * 144) * 144 := by
    intro i s i0 i1 A B hs h1
    have hri := hr i i0 i1
    have hd := (ok.2.2.2.1 (r i) hri.1 (by omega)).2.1
    have hm := mul_bd (B := 12) h1.1 h1.2 (show 0 ≤ v 5 (r i) by omega) hd.2
    omega
  have g0 : fbV v r 0 = 0 := rfl
  have g1 : 0 < d → 0 ≤ fbV v r 1 ∧ fbV v r 1 ≤ 295612416 := fun q => by
    have := st 0 (fbV v r 0) (by omega) q _ 0 (by omega) (h0 (r 0) (hr 0 (by omega) q).1 (hr 0 (by omega) q).2)
    have e : fbV v r 1 = (fbV v r 0 + lieV v r 0 (r 0) * v 5 (r 0) * 12) * 12 * 12 := rfl
    omega
  have g2 : 1 < d → 0 ≤ fbV v r 2 ∧ fbV v r 2 ≤ 1000000000000 := fun q => by
    have := st 1 (fbV v r 1) (by omega) q _ _ (g1 (by omega)) (h1 (r 1) (hr 1 (by omega) q).1 (hr 1 (by omega) q).2)
    have e : fbV v r 2 = (fbV v r 1 + lieV v r 1 (r 1) * v 5 (r 1) * 12) * 12 * 12 := rfl
    omega
  have g3 : 2 < d → 0 ≤ fbV v r 3 ∧ fbV v r 3 ≤ 600000000000000 := fun q => by
    have := st 2 (fbV v r 2) (by omega) q _ _ (g2 (by omega)) (h2 (r 2) (hr 2 (by omega) q).1 (hr 2 (by omega) q).2)
    have e : fbV v r 3 = (fbV v r 2 + lieV v r 2 (r 2) * v 5 (r 2) * 12) * 12 * 12 := rfl
    omega
  have g4 : 3 < d → 0 ≤ fbV v r 4 ∧ fbV v r 4 ≤ 100000000000000000 := fun q => by
    have := st 3 (fbV v r 3) (by omega) q _ _ (g3 (by omega)) (h3 (r 3) (hr 3 (by omega) q).1 (hr 3 (by omega) q).2)
    have e : fbV v r 4 = (fbV v r 3 + lieV v r 3 (r 3) * v 5 (r 3) * 12) * 12 * 12 := rfl
    omega
  have hm : d = 0 ∨ d = 1 ∨ d = 2 ∨ d = 3 ∨ d = 4 := by omega
  rcases hm with h | h | h | h | h <;> subst h
  · omega
  · have := g1 (by omega); omega
  · have := g2 (by omega); omega
  · have := g3 (by omega); omega
  · have := g4 (by omega); omega
/-- the best of the rows behind i rows of all days but the last, by the last day's best place -/
theorem cha_j {v : TV} {k i : Int} {L : Int → Int} {fb : Int} (i0 : 0 ≤ i) (hp : 0 ≤ v 0 0) (hT : ∀ a : Int, 0 ≤ a → a < v 0 0 → totV v k (dg (v 0 0) k.toNat (i * v 0 0 + a)) = fb + L a * v 5 a * 12) :
    ((jV v L fb (chaF v k (i * v 0 0)).1 (v 0 0)).2 < 0 → (jV v L fb (chaF v k (i * v 0 0)).1 (v 0 0)).1 = (chaF v k (i * v 0 0)).1) ∧ chaF v k ((i + 1) * v 0 0) = if (jV v L fb (chaF v k (i * v 0 0)).1 (v 0 0)).2 < 0 then chaF v k (i * v 0 0) else ((jV v L fb (chaF v k (i * v 0 0)).1 (v 0 0)).1, i * v 0 0 + (jV v L fb (chaF v k (i * v 0 0)).1 (v 0 0)).2) := by
  have key : ∀ n : Nat, (n : Int) ≤ v 0 0 → ((jV v L fb (chaF v k (i * v 0 0)).1 n).2 < 0 → (jV v L fb (chaF v k (i * v 0 0)).1 n).1 = (chaF v k (i * v 0 0)).1) ∧ chaF v k (i * v 0 0 + n) = if (jV v L fb (chaF v k (i * v 0 0)).1 n).2 < 0 then chaF v k (i * v 0 0) else ((jV v L fb (chaF v k (i * v 0 0)).1 n).1, i * v 0 0 + (jV v L fb (chaF v k (i * v 0 0)).1 n).2) := by
    intro n
    induction n with
    | zero => intro _; exact ⟨fun _ => rfl, by
        rw [if_pos (show (jV v L fb (chaF v k (i * v 0 0)).1 ((0 : Nat) : Int)).2 < 0 from show (-1 : Int) < 0 by omega)]
        have : i * v 0 0 + ((0 : Nat) : Int) = i * v 0 0 := by omega
        rw [this]⟩
    | succ n ih =>
      intro hn
      obtain ⟨h1, h2⟩ := ih (by omega)
      have e : ((n + 1 : Nat) : Int) = (n : Int) + 1 := by omega
      have hi := Int.mul_nonneg i0 hp
      have e1 : (chaF v k (i * v 0 0 + n)).1 = (jV v L fb (chaF v k (i * v 0 0)).1 n).1 := by
        rw [h2]
        by_cases q : (jV v L fb (chaF v k (i * v 0 0)).1 n).2 < 0
        · rw [if_pos q, h1 q]
        · rw [if_neg q]
      rw [e, ← Int.add_assoc, chaF_s (by omega), jV_s (by omega), hT n (by omega) (by omega), e1]
      by_cases c : (jV v L fb (chaF v k (i * v 0 0)).1 n).1 < fb + L n * v 5 n * 12
      · rw [if_pos c, if_pos c]
        exact ⟨fun q => absurd (show (n : Int) < 0 from q) (by omega), by rw [if_neg (show ¬ (n : Int) < 0 by omega)]⟩
      · rw [if_neg c, if_neg c]
        exact ⟨h1, h2⟩
  have := (key (v 0 0).toNat (by omega))
  rw [Int.toNat_of_nonneg hp] at this
  rw [Int.add_mul, Int.one_mul]
  exact this
theorem jV_bd {v : TV} {L : Int → Int} {fb m B n : Int} (hm : -1 ≤ m ∧ m ≤ B) (h : ∀ a : Int, 0 ≤ a → a < n → 0 ≤ fb + L a * v 5 a * 12 ∧ fb + L a * v 5 a * 12 ≤ B) (hn : 0 ≤ n) : (-1 ≤ (jV v L fb m n).1 ∧ (jV v L fb m n).1 ≤ B) ∧ (-1 ≤ (jV v L fb m n).2 ∧ (jV v L fb m n).2 < n ∨ (jV v L fb m n).2 = -1) ∧ (m < 0 → 0 < n → 0 ≤ (jV v L fb m n).2) := by
  have key := fold_ind (f := fun (x : Int × Int) a => if x.1 < fb + L a * v 5 a * 12 then (fb + L a * v 5 a * 12, a) else x) (x := (m, -1)) (n := n) (P := fun i y => (-1 ≤ y.1 ∧ y.1 ≤ B) ∧ (-1 ≤ y.2 ∧ y.2 < i ∨ y.2 = -1) ∧ (i = 0 → y.1 = m) ∧ (m < 0 → 0 < i → 0 ≤ y.2)) ⟨hm, Or.inr rfl, fun _ => rfl, fun _ q => absurd q (by omega)⟩ ?_ hn
  · exact ⟨key.1, key.2.1, key.2.2.2⟩
  · intro i y i0 i1 ⟨h1, h2, h3, h4⟩
    have ha := h i i0 i1
    by_cases c : y.1 < fb + L i * v 5 i * 12
    · simp only [c, if_true]
      exact ⟨by omega, by omega, fun q => absurd q (by omega), fun _ _ => i0⟩
    · simp only [c, if_false]
      exact ⟨h1, by omega, fun q => absurd q (by omega), fun m0 _ => by
        by_cases q : i = 0
        · have := h3 q; omega
        · exact h4 m0 (by omega)⟩
theorem nv_zero {p : Int} {r : Int → Int} {m : Int} (h0 : 0 ≤ m) (h : ∀ j : Int, 0 ≤ j → j < m → r j = 0) : nv p r m = 0 := by
  have key : ∀ k : Nat, (∀ j : Int, 0 ≤ j → j < k → r j = 0) → nv p r k = 0 := by
    intro k
    induction k with
    | zero => intro _; rfl
    | succ k ih =>
      intro h
      have e : ((k + 1 : Nat) : Int) = (k : Int) + 1 := by omega
      rw [e, nv_s (by omega), ih (fun j j0 j1 => h j j0 (by omega)), h k (by omega) (by omega)]
      omega
  have := key m.toNat (by rwa [Int.toNat_of_nonneg h0])
  rwa [Int.toNat_of_nonneg h0] at this
def ChaR (v : TV) (k : Int) (μ : Mem) : Prop := μ 186 8 = (chaV v k).1 ∧ ∀ j : Int, 0 ≤ j → j < k → μ 192 j = dg (v 0 0) k.toNat (chaV v k).2 j
def P_X2_plan (o t k : Int) (μ : Mem) : Prop := o = 186 ∧ TB μ t ∧ calm (tv μ t) ∧ (1 ≤ k ∧ k ≤ 5) ∧ r32 (μ t 0) ∧ r32 (μ 186 9) ∧ r32 (μ 186 10) ∧ (μ 186 9 = μ t 0 → μ 186 10 = k → ChaR (tv μ t) k μ)
def Q_X2_plan (_ t k : Int) (μ μ' : Mem) : Prop := μ' 186 9 = μ t 0 ∧ μ' 186 10 = k ∧ ChaR (tv μ t) k μ' ∧ ∀ z : Int, (z < 186 ∨ 192 < z) → μ' z = μ z
/-- the first days are worked out -/
def DayR (v : TV) (k : Int) (m : Mem) (d : Int) : Prop := (∀ a : Int, 0 ≤ a → a < v 0 0 → m 188 (8 * d + a) = lieV v (m 191) d a) ∧ m 190 d = fbV v (m 191) d ∧ (d < k - 1 ∨ d = 0 → ∀ a : Int, 0 ≤ a → a < v 0 0 → m 189 (8 * d + a) = nightV v (lieV v (m 191) d) a * 12)
theorem DayR_congr {v : TV} {k d : Int} {m m' : Mem} (h8 : m 188 = m' 188) (h9 : m 189 = m' 189) (h0 : m 190 = m' 190) (h1 : ∀ j, 0 ≤ j → j < d → m 191 j = m' 191 j) (h : DayR v k m' d) : DayR v k m d := by
  unfold DayR
  rw [h8, h9, h0, lieV_congr h1, fbV_congr h1]
  exact h
def S_X2_plan : S0t := fun as μ Q => match as with
  | [(2, x0), (2, x1), (0, x2)] => P_X2_plan x0 x1 x2 μ ∧ ∀ (μ' : Mem) , Q_X2_plan x0 x1 x2 μ μ'  → Q μ' none
  | _ => False
theorem mono_X2_plan : Mono S_X2_plan := by
  intro as μ Q Q' h hS
  unfold S_X2_plan at hS ⊢
  split at hS
  · exact ⟨hS.1, fun μ' q => h _ _ (hS.2 _ q)⟩
  · exact hS.elim
def iX2_plan : Inf := (kX2_plan, fTX2, pTX2, cTX2, lTX2, sTX2, [(67, 0, 1, 2, S_X2_fillMoves), (71, 1, 2, 0, S_J7_fill_53178), (80, 0, 2, 2, S_X2_spreadOut), (88, 0, 1, 2, S_X2_judgeLastDay), (85, 0, 2, 2, S_X2_passDay), (91, 0, 1, 2, S_X2_turnRow)])
theorem ok_X2_plan : infOK iX2_plan mX2_plan RX2 3 85 := ⟨kkX2_plan, fTX2_ok, pTX2_ok _, cTX2_ok, lTX2_ok, sTX2_ok, c_cons ⟨mX2_fillMoves, 2, 45, ct_X2_fillMoves, mmX2_fillMoves, vvX2_fillMoves, lkX2_67, ⟨by decide, by decide⟩, ⟨_, _, rfl⟩, by decide, mono_X2_fillMoves⟩ (c_cons ⟨mJ7_fill_53178, 0, 0, ct_J7_fill_53178, mmJ7_fill_53178, stJ7_fill_53178, lkX2_71, ⟨by decide, by decide⟩, mono_J7_fill_53178⟩ (c_cons ⟨mX2_spreadOut, 0, 0, ct_X2_spreadOut, mmX2_spreadOut, vvX2_spreadOut, lkX2_80, ⟨by decide, by decide⟩, ⟨_, _, rfl⟩, by decide, mono_X2_spreadOut⟩ (c_cons ⟨mX2_judgeLastDay, 1, 60, ct_X2_judgeLastDay, mmX2_judgeLastDay, vvX2_judgeLastDay, lkX2_88, ⟨by decide, by decide⟩, ⟨_, _, rfl⟩, by decide, mono_X2_judgeLastDay⟩ (c_cons ⟨mX2_passDay, 1, 26, ct_X2_passDay, mmX2_passDay, vvX2_passDay, lkX2_85, ⟨by decide, by decide⟩, ⟨_, _, rfl⟩, by decide, mono_X2_passDay⟩ (c_cons ⟨mX2_turnRow, 0, 0, ct_X2_turnRow, mmX2_turnRow, vvX2_turnRow, lkX2_91, ⟨by decide, by decide⟩, ⟨_, _, rfl⟩, by decide, mono_X2_turnRow⟩ (c_nil))))))⟩
theorem mt_X2_plan : mtOK [] RX2 3 85 := mt_nil
abbrev V_X2_plan (R : Mem → Option AV → Prop) (pc : Nat) (lc : List (Nat × AV)) (μ : Mem) : Prop := VM mX2_plan RX2 3 85 R pc lc [] μ
set_option maxRecDepth 20000 in
theorem vc_X2_plan_0 {R : Mem → Option AV → Prop} {k t : Int} {μ : Mem} (ht : isT t) (H : r32 (μ t 0) ∧ r32 (μ 186 9) ∧ ((¬ (μ t 0) = (μ 186 9)) → V_X2_plan R 28 [(0, kR 186), (1, kR t), (2, kI k)] (updm μ 186 9 (μ t 0))) ∧ (¬ (¬ (μ t 0) = (μ 186 9)) → r32 (μ 186 10) ∧ r32 k ∧ ((¬ (μ 186 10) = k) → V_X2_plan R 28 [(0, kR 186), (1, kR t), (2, kI k)] (updm μ 186 9 (μ t 0))) ∧ (¬ (¬ (μ 186 10) = k) → R μ none))) : V_X2_plan R 0 [(0, kR 186), (1, kR t), (2, kI k)] μ := by
  refine vm_step2 mt_X2_plan ok_X2_plan [(28, [0, 1, 2]), (33, [0, 1]), (40, [0, 1]), (45, [0, 1]), (53, [0, 1]), (55, [0, 1, 3]), (76, [0, 1, 3]), (89, [0, 1]), (95, [0, 1]), (100, [0, 1, 3, 4]), (114, [0, 1, 4, 5]), (132, [0, 1, 4, 5]), (143, [0, 1, 4])] 1000 ?_
  show isC t 7 ∧ isC 186 2 ∧ (r32 (μ t 0) ∧ r32 (μ 186 9)) ∧ ((¬ (μ t 0) = (μ 186 9)) → isC t 7 ∧ isC 186 2 ∧ 0 = 0 ∧ True ∧ V_X2_plan R 28 [(0, kR 186), (1, kR t), (2, kI k)] (updm μ 186 9 (μ t 0))) ∧ (¬ (¬ (μ t 0) = (μ 186 9)) → isC 186 2 ∧ (r32 (μ 186 10) ∧ r32 k) ∧ ((¬ (μ 186 10) = k) → isC t 7 ∧ isC 186 2 ∧ 0 = 0 ∧ True ∧ V_X2_plan R 28 [(0, kR 186), (1, kR t), (2, kI k)] (updm μ 186 9 (μ t 0))) ∧ (¬ (¬ (μ 186 10) = k) → R μ none))
  exact ⟨isT_C ht, ⟨c_186, ⟨⟨H.1, H.2.1⟩, fun hc2 => ⟨isT_C ht, ⟨c_186, rfl, trivial, (H.2.2.1 hc2)⟩⟩, fun hc2 => ⟨c_186, ⟨⟨(H.2.2.2 hc2).1, (H.2.2.2 hc2).2.1⟩, fun hc1 => ⟨isT_C ht, ⟨c_186, rfl, trivial, ((H.2.2.2 hc2).2.2.1 hc1)⟩⟩, fun hc1 => ((H.2.2.2 hc2).2.2.2 hc1)⟩⟩⟩⟩⟩
set_option maxRecDepth 20000 in
theorem vc_X2_plan_28 {R : Mem → Option AV → Prop} {k t : Int} {μ : Mem} (ht : isT t) (H : V_X2_plan R 33 [(0, kR 186), (1, kR t)] (updm μ 186 10 k)) : V_X2_plan R 28 [(0, kR 186), (1, kR t), (2, kI k)] μ := by
  refine vm_step2 mt_X2_plan ok_X2_plan [(28, [0, 1, 2]), (33, [0, 1]), (40, [0, 1]), (45, [0, 1]), (53, [0, 1]), (55, [0, 1, 3]), (76, [0, 1, 3]), (89, [0, 1]), (95, [0, 1]), (100, [0, 1, 3, 4]), (114, [0, 1, 4, 5]), (132, [0, 1, 4, 5]), (143, [0, 1, 4])] 1000 ?_
  show isC 186 2 ∧ 0 = 0 ∧ True ∧ V_X2_plan R 33 [(0, kR 186), (1, kR t)] (updm μ 186 10 k)
  exact ⟨c_186, rfl, trivial, H⟩
set_option maxRecDepth 20000 in
theorem vc_X2_plan_33 {R : Mem → Option AV → Prop} {t : Int} {μ : Mem} (ht : isT t) (H : V_X2_plan R 40 [(0, kR 186), (1, kR t)] (updm μ 186 8 (-1))) : V_X2_plan R 33 [(0, kR 186), (1, kR t)] μ := by
  refine vm_step2 mt_X2_plan ok_X2_plan [(28, [0, 1, 2]), (33, [0, 1]), (40, [0, 1]), (45, [0, 1]), (53, [0, 1]), (55, [0, 1, 3]), (76, [0, 1, 3]), (89, [0, 1]), (95, [0, 1]), (100, [0, 1, 3, 4]), (114, [0, 1, 4, 5]), (132, [0, 1, 4, 5]), (143, [0, 1, 4])] 1000 ?_
  show isC 186 2 ∧ 1 = 1 ∧ True ∧ V_X2_plan R 40 [(0, kR 186), (1, kR t)] (updm μ 186 8 (-1))
  exact ⟨c_186, rfl, trivial, H⟩
set_option maxRecDepth 20000 in
theorem vc_X2_plan_40 {R : Mem → Option AV → Prop} {t : Int} {μ : Mem} (ht : isT t) (H : P_X2_fillMoves 186 t μ ∧ (∀ (μ3 : Mem), Q_X2_fillMoves 186 t μ μ3 → V_X2_plan R 45 [(0, kR 186), (1, kR t)] μ3)) : V_X2_plan R 40 [(0, kR 186), (1, kR t)] μ := by
  refine vm_step2 mt_X2_plan ok_X2_plan [(28, [0, 1, 2]), (33, [0, 1]), (40, [0, 1]), (45, [0, 1]), (53, [0, 1]), (55, [0, 1, 3]), (76, [0, 1, 3]), (89, [0, 1]), (95, [0, 1]), (100, [0, 1, 3, 4]), (114, [0, 1, 4, 5]), (132, [0, 1, 4, 5]), (143, [0, 1, 4])] 1000 ?_
  show isC 186 2 ∧ P_X2_fillMoves 186 t μ ∧ (∀ (μ3 : Mem), Q_X2_fillMoves 186 t μ μ3 → V_X2_plan R 45 [(0, kR 186), (1, kR t)] μ3)
  exact ⟨c_186, H.1, fun μ3 hq5 => (H.2 μ3 hq5)⟩
set_option maxRecDepth 20000 in
theorem vc_X2_plan_45 {R : Mem → Option AV → Prop} {t : Int} {μ : Mem} (ht : isT t) (H : P_J7_fill_53178 191 0 μ ∧ V_X2_plan R 53 [(0, kR 186), (1, kR t)] (M_J7_fill_53178 191 0 μ)) : V_X2_plan R 45 [(0, kR 186), (1, kR t)] μ := by
  refine vm_step2 mt_X2_plan ok_X2_plan [(28, [0, 1, 2]), (33, [0, 1]), (40, [0, 1]), (45, [0, 1]), (53, [0, 1]), (55, [0, 1, 3]), (76, [0, 1, 3]), (89, [0, 1]), (95, [0, 1]), (100, [0, 1, 3, 4]), (114, [0, 1, 4, 5]), (132, [0, 1, 4, 5]), (143, [0, 1, 4])] 1000 ?_
  show isC 186 2 ∧ P_J7_fill_53178 191 0 μ ∧ V_X2_plan R 53 [(0, kR 186), (1, kR t)] (M_J7_fill_53178 191 0 μ)
  exact ⟨c_186, ⟨H.1, H.2⟩⟩
set_option maxRecDepth 20000 in
theorem vc_X2_plan_53 {R : Mem → Option AV → Prop} {t : Int} {μ : Mem} (ht : isT t) (H : V_X2_plan R 55 [(0, kR 186), (1, kR t), (3, kI 0)] μ) : V_X2_plan R 53 [(0, kR 186), (1, kR t)] μ := by
  refine vm_step2 mt_X2_plan ok_X2_plan [(28, [0, 1, 2]), (33, [0, 1]), (40, [0, 1]), (45, [0, 1]), (53, [0, 1]), (55, [0, 1, 3]), (76, [0, 1, 3]), (89, [0, 1]), (95, [0, 1]), (100, [0, 1, 3, 4]), (114, [0, 1, 4, 5]), (132, [0, 1, 4, 5]), (143, [0, 1, 4])] 1000 ?_
  show V_X2_plan R 55 [(0, kR 186), (1, kR t), (3, kI 0)] μ
  exact H
set_option maxRecDepth 20000 in
theorem vc_X2_plan_55 {R : Mem → Option AV → Prop} {a t : Int} {μ : Mem} (ht : isT t) (H : r32 a ∧ r32 (μ t 1) ∧ (((μ t 1) ≤ a) → V_X2_plan R 89 [(0, kR 186), (1, kR t)] (updm μ 190 0 0)) ∧ (¬ ((μ t 1) ≤ a) → (0 ≤ a ∧ a < 8) ∧ r32 (μ (t + 3) a) ∧ (0 ≤ a ∧ a < 40) ∧ V_X2_plan R 76 [(0, kR 186), (1, kR t), (3, kI a)] (updm μ 188 a (μ (t + 3) a)))) : V_X2_plan R 55 [(0, kR 186), (1, kR t), (3, kI a)] μ := by
  refine vm_step2 mt_X2_plan ok_X2_plan [(28, [0, 1, 2]), (33, [0, 1]), (40, [0, 1]), (45, [0, 1]), (53, [0, 1]), (55, [0, 1, 3]), (76, [0, 1, 3]), (89, [0, 1]), (95, [0, 1]), (100, [0, 1, 3, 4]), (114, [0, 1, 4, 5]), (132, [0, 1, 4, 5]), (143, [0, 1, 4])] 1000 ?_
  show isC t 7 ∧ (r32 a ∧ r32 (μ t 1)) ∧ (((μ t 1) ≤ a) → isC 186 2 ∧ inA 190 1 (0 : Int) ∧ V_X2_plan R 89 [(0, kR 186), (1, kR t)] (updm μ 190 0 0)) ∧ (¬ ((μ t 1) ≤ a) → isC 186 2 ∧ isC t 7 ∧ inA (t + 3) 0 a ∧ r32 (μ (t + 3) a) ∧ inA 188 1 a ∧ V_X2_plan R 76 [(0, kR 186), (1, kR t), (3, kI a)] (updm μ 188 a (μ (t + 3) a)))
  exact ⟨isT_C ht, ⟨⟨H.1, H.2.1⟩, fun hc6 => ⟨c_186, ⟨isArr.in a_190 (by omega) (by omega), (H.2.2.1 hc6)⟩⟩, fun hc6 => ⟨c_186, ⟨isT_C ht, ⟨isArr.in (T_chance ht) (H.2.2.2 hc6).1.1 (H.2.2.2 hc6).1.2, ⟨(H.2.2.2 hc6).2.1, ⟨isArr.in a_188 (H.2.2.2 hc6).2.2.1.1 (H.2.2.2 hc6).2.2.1.2, (H.2.2.2 hc6).2.2.2⟩⟩⟩⟩⟩⟩⟩
set_option maxRecDepth 20000 in
theorem vc_X2_plan_76 {R : Mem → Option AV → Prop} {a t : Int} {μ : Mem} (ht : isT t) (H : V_X2_plan R 55 [(0, kR 186), (1, kR t), (3, kI (a + 1))] μ) : V_X2_plan R 76 [(0, kR 186), (1, kR t), (3, kI a)] μ := by
  refine vm_step2 mt_X2_plan ok_X2_plan [(28, [0, 1, 2]), (33, [0, 1]), (40, [0, 1]), (45, [0, 1]), (53, [0, 1]), (55, [0, 1, 3]), (76, [0, 1, 3]), (89, [0, 1]), (95, [0, 1]), (100, [0, 1, 3, 4]), (114, [0, 1, 4, 5]), (132, [0, 1, 4, 5]), (143, [0, 1, 4])] 1000 ?_
  show V_X2_plan R 55 [(0, kR 186), (1, kR t), (3, kI (a + 1))] μ
  exact H
set_option maxRecDepth 20000 in
theorem vc_X2_plan_89 {R : Mem → Option AV → Prop} {t : Int} {μ : Mem} (ht : isT t) (H : P_X2_spreadOut 186 t 0 μ ∧ (∀ (μ7 : Mem), Q_X2_spreadOut 186 t 0 μ μ7 → V_X2_plan R 95 [(0, kR 186), (1, kR t)] μ7)) : V_X2_plan R 89 [(0, kR 186), (1, kR t)] μ := by
  refine vm_step2 mt_X2_plan ok_X2_plan [(28, [0, 1, 2]), (33, [0, 1]), (40, [0, 1]), (45, [0, 1]), (53, [0, 1]), (55, [0, 1, 3]), (76, [0, 1, 3]), (89, [0, 1]), (95, [0, 1]), (100, [0, 1, 3, 4]), (114, [0, 1, 4, 5]), (132, [0, 1, 4, 5]), (143, [0, 1, 4])] 1000 ?_
  show isC 186 2 ∧ P_X2_spreadOut 186 t 0 μ ∧ (∀ (μ7 : Mem), Q_X2_spreadOut 186 t 0 μ μ7 → V_X2_plan R 95 [(0, kR 186), (1, kR t)] μ7)
  exact ⟨c_186, H.1, fun μ7 hq9 => (H.2 μ7 hq9)⟩
set_option maxRecDepth 20000 in
theorem vc_X2_plan_95 {R : Mem → Option AV → Prop} {t : Int} {μ : Mem} (ht : isT t) (H : V_X2_plan R 100 [(0, kR 186), (1, kR t), (3, kI 0), (4, kI 0)] μ) : V_X2_plan R 95 [(0, kR 186), (1, kR t)] μ := by
  refine vm_step2 mt_X2_plan ok_X2_plan [(28, [0, 1, 2]), (33, [0, 1]), (40, [0, 1]), (45, [0, 1]), (53, [0, 1]), (55, [0, 1, 3]), (76, [0, 1, 3]), (89, [0, 1]), (95, [0, 1]), (100, [0, 1, 3, 4]), (114, [0, 1, 4, 5]), (132, [0, 1, 4, 5]), (143, [0, 1, 4])] 1000 ?_
  show V_X2_plan R 100 [(0, kR 186), (1, kR t), (3, kI 0), (4, kI 0)] μ
  exact H
set_option maxRecDepth 20000 in
theorem vc_X2_plan_100 {R : Mem → Option AV → Prop} {a i t : Int} {μ : Mem} (ht : isT t) (H : r32 i ∧ (((1000000 : Int) ≤ i) → R μ none) ∧ (¬ ((1000000 : Int) ≤ i) → r32 a ∧ ((a < 0) → R μ none) ∧ (¬ (a < 0) → V_X2_plan R 114 [(0, kR 186), (1, kR t), (4, kI i), (5, kI a)] μ))) : V_X2_plan R 100 [(0, kR 186), (1, kR t), (3, kI a), (4, kI i)] μ := by
  refine vm_step2 mt_X2_plan ok_X2_plan [(28, [0, 1, 2]), (33, [0, 1]), (40, [0, 1]), (45, [0, 1]), (53, [0, 1]), (55, [0, 1, 3]), (76, [0, 1, 3]), (89, [0, 1]), (95, [0, 1]), (100, [0, 1, 3, 4]), (114, [0, 1, 4, 5]), (132, [0, 1, 4, 5]), (143, [0, 1, 4])] 1000 ?_
  show (r32 i ∧ r32 (1000000 : Int)) ∧ (((1000000 : Int) ≤ i) → R μ none) ∧ (¬ ((1000000 : Int) ≤ i) → r32 a ∧ ((a < 0) → R μ none) ∧ (¬ (a < 0) → V_X2_plan R 114 [(0, kR 186), (1, kR t), (4, kI i), (5, kI a)] μ))
  exact ⟨⟨H.1, by unfold r32; omega⟩, fun hc11 => (H.2.1 hc11), fun hc11 => ⟨(H.2.2 hc11).1, fun hc10 => ((H.2.2 hc11).2.1 hc10), fun hc10 => ((H.2.2 hc11).2.2 hc10)⟩⟩
set_option maxRecDepth 20000 in
theorem vc_X2_plan_114 {R : Mem → Option AV → Prop} {i v5 t : Int} {μ : Mem} (ht : isT t) (H : r32 v5 ∧ r32 ((μ 186 10) - 1) ∧ ((((μ 186 10) - 1) ≤ v5) → P_X2_judgeLastDay 186 t μ ∧ (∀ (μ12 : Mem), Q_X2_judgeLastDay 186 t μ μ12 → V_X2_plan R 143 [(0, kR 186), (1, kR t), (4, kI i)] μ12)) ∧ (¬ (((μ 186 10) - 1) ≤ v5) → P_X2_passDay 186 t v5 μ ∧ (∀ (μ15 : Mem), Q_X2_passDay 186 t v5 μ μ15 → V_X2_plan R 132 [(0, kR 186), (1, kR t), (4, kI i), (5, kI v5)] μ15))) : V_X2_plan R 114 [(0, kR 186), (1, kR t), (4, kI i), (5, kI v5)] μ := by
  refine vm_step2 mt_X2_plan ok_X2_plan [(28, [0, 1, 2]), (33, [0, 1]), (40, [0, 1]), (45, [0, 1]), (53, [0, 1]), (55, [0, 1, 3]), (76, [0, 1, 3]), (89, [0, 1]), (95, [0, 1]), (100, [0, 1, 3, 4]), (114, [0, 1, 4, 5]), (132, [0, 1, 4, 5]), (143, [0, 1, 4])] 1000 ?_
  show isC 186 2 ∧ (r32 v5 ∧ r32 ((μ 186 10) - 1)) ∧ ((((μ 186 10) - 1) ≤ v5) → isC 186 2 ∧ P_X2_judgeLastDay 186 t μ ∧ (∀ (μ12 : Mem), Q_X2_judgeLastDay 186 t μ μ12 → V_X2_plan R 143 [(0, kR 186), (1, kR t), (4, kI i)] μ12)) ∧ (¬ (((μ 186 10) - 1) ≤ v5) → isC 186 2 ∧ P_X2_passDay 186 t v5 μ ∧ (∀ (μ15 : Mem), Q_X2_passDay 186 t v5 μ μ15 → V_X2_plan R 132 [(0, kR 186), (1, kR t), (4, kI i), (5, kI v5)] μ15))
  exact ⟨c_186, ⟨⟨H.1, H.2.1⟩, fun hc18 => ⟨c_186, (H.2.2.1 hc18).1, fun μ12 hq14 => ((H.2.2.1 hc18).2 μ12 hq14)⟩, fun hc18 => ⟨c_186, (H.2.2.2 hc18).1, fun μ15 hq17 => ((H.2.2.2 hc18).2 μ15 hq17)⟩⟩⟩
set_option maxRecDepth 20000 in
theorem vc_X2_plan_132 {R : Mem → Option AV → Prop} {i v5 t : Int} {μ : Mem} (ht : isT t) (H : V_X2_plan R 114 [(0, kR 186), (1, kR t), (4, kI i), (5, kI (v5 + 1))] μ) : V_X2_plan R 132 [(0, kR 186), (1, kR t), (4, kI i), (5, kI v5)] μ := by
  refine vm_step2 mt_X2_plan ok_X2_plan [(28, [0, 1, 2]), (33, [0, 1]), (40, [0, 1]), (45, [0, 1]), (53, [0, 1]), (55, [0, 1, 3]), (76, [0, 1, 3]), (89, [0, 1]), (95, [0, 1]), (100, [0, 1, 3, 4]), (114, [0, 1, 4, 5]), (132, [0, 1, 4, 5]), (143, [0, 1, 4])] 1000 ?_
  show V_X2_plan R 114 [(0, kR 186), (1, kR t), (4, kI i), (5, kI (v5 + 1))] μ
  exact H
set_option maxRecDepth 20000 in
theorem vc_X2_plan_143 {R : Mem → Option AV → Prop} {i t : Int} {μ : Mem} (ht : isT t) (H : P_X2_turnRow 186 t μ ∧ (∀ (μ19 : Mem) (r20 : Int), Q_X2_turnRow 186 t μ μ19 r20 → V_X2_plan R 100 [(0, kR 186), (1, kR t), (3, kI r20), (4, kI (i + 1))] μ19)) : V_X2_plan R 143 [(0, kR 186), (1, kR t), (4, kI i)] μ := by
  refine vm_step2 mt_X2_plan ok_X2_plan [(28, [0, 1, 2]), (33, [0, 1]), (40, [0, 1]), (45, [0, 1]), (53, [0, 1]), (55, [0, 1, 3]), (76, [0, 1, 3]), (89, [0, 1]), (95, [0, 1]), (100, [0, 1, 3, 4]), (114, [0, 1, 4, 5]), (132, [0, 1, 4, 5]), (143, [0, 1, 4])] 1000 ?_
  show isC 186 2 ∧ P_X2_turnRow 186 t μ ∧ (∀ (μ19 : Mem) (r20 : Int), Q_X2_turnRow 186 t μ μ19 r20 → V_X2_plan R 100 [(0, kR 186), (1, kR t), (3, kI r20), (4, kI (i + 1))] μ19)
  exact ⟨c_186, H.1, fun μ19 r20 hq21 => (H.2 μ19 r20 hq21)⟩
theorem body_X2_plan {o t k : Int} {μ : Mem} {R : Mem → Option AV → Prop} (h : P_X2_plan o t k μ) (hR : ∀ μ' : Mem, Q_X2_plan o t k μ μ' → R μ' none) : V_X2_plan R 0 [(0, kR o), (1, kR t), (2, kI k)] μ := by
  obtain ⟨rfl, ⟨ht, ok⟩, hca, hk, r1, r2, r3, hold⟩ := h
  have hp : 2 ≤ μ t 1 ∧ μ t 1 ≤ 8 := ok.1
  have hpe : tv μ t 0 0 = μ t 1 := rfl
  have hT := isT_hi ht
  have fr : ∀ {m : Mem}, (∀ z : Int, (z < 186 ∨ 192 < z) → m z = μ z) → ∀ z : Int, t ≤ z → z ≤ t + 9 → m z = μ z := fun h z z0 z1 => h z (by omega)
  have hpw := pw_bd (p := μ t 1) (by omega) hp.2 (m := k - 1) (by omega) (by omega)
  have hkn : k.toNat = (k - 1).toNat + 1 := by omega
  have hkc : ((k - 1).toNat : Int) = k - 1 := by omega
  -- the rows of days
  have pi : ∀ i : Int, 0 ≤ i → i ≤ pw (μ t 1) (k - 1) → ∀ (m : Mem) (c : Int), ((0 ≤ c ∧ c ≤ k - 1 ∧ (∀ j : Int, 0 ≤ j → j < k - 1 → 0 ≤ m 191 j ∧ m 191 j < μ t 1) ∧ i = nv (μ t 1) (m 191) (k - 1) ∧ i < pw (μ t 1) (k - 1) ∧ ∀ d : Int, 0 ≤ d → d ≤ c → DayR (tv μ t) k m d) ∨ (c = -1 ∧ i = pw (μ t 1) (k - 1))) → (∀ z : Int, (z < 186 ∨ 192 < z) → m z = μ z) → Holds2 m 187 (μ t 1) (mvV (tv μ t)) → m 186 9 = μ t 0 → m 186 10 = k → m 186 8 = (chaF (tv μ t) k (i * μ t 1)).1 → (-1 ≤ m 186 8 ∧ m 186 8 ≤ 1000000000000000000) → (0 < i → ∀ j : Int, 0 ≤ j → j < k → m 192 j = dg (μ t 1) k.toNat (chaF (tv μ t) k (i * μ t 1)).2 j) → V_X2_plan R 100 [(0, kR 186), (1, kR t), (3, kI c), (4, kI i)] m := by
    refine up_ind (P := fun i => ∀ (m : Mem) (c : Int), ((0 ≤ c ∧ c ≤ k - 1 ∧ (∀ j : Int, 0 ≤ j → j < k - 1 → 0 ≤ m 191 j ∧ m 191 j < μ t 1) ∧ i = nv (μ t 1) (m 191) (k - 1) ∧ i < pw (μ t 1) (k - 1) ∧ ∀ d : Int, 0 ≤ d → d ≤ c → DayR (tv μ t) k m d) ∨ (c = -1 ∧ i = pw (μ t 1) (k - 1))) → (∀ z : Int, (z < 186 ∨ 192 < z) → m z = μ z) → Holds2 m 187 (μ t 1) (mvV (tv μ t)) → m 186 9 = μ t 0 → m 186 10 = k → m 186 8 = (chaF (tv μ t) k (i * μ t 1)).1 → (-1 ≤ m 186 8 ∧ m 186 8 ≤ 1000000000000000000) → (0 < i → ∀ j : Int, 0 ≤ j → j < k → m 192 j = dg (μ t 1) k.toNat (chaF (tv μ t) k (i * μ t 1)).2 j) → V_X2_plan R 100 [(0, kR 186), (1, kR t), (3, kI c), (4, kI i)] m) ?_ ?_
    · intro i i0 i1 ih m c hc hf hmo e9 e10 e8 hbd hbest
      rcases hc with ⟨c0, c1, hrow, hi, _, hday⟩ | ⟨_, hc⟩
      · refine vc_X2_plan_100 ht ⟨rr (by omega), fun q => absurd q (by omega), fun _ => ⟨rr (by omega), fun q => absurd q (by omega), fun _ => ?_⟩⟩
        -- the days from the first that changed
        have pd : ∀ d : Int, c ≤ d → d ≤ k - 1 → ∀ m' : Mem, (∀ j : Int, m' 191 j = m 191 j) → (∀ z : Int, (z < 186 ∨ 192 < z) → m' z = μ z) → Holds2 m' 187 (μ t 1) (mvV (tv μ t)) → m' 186 = m 186 → m' 192 = m 192 → (∀ e : Int, 0 ≤ e → e ≤ d → DayR (tv μ t) k m' e) → V_X2_plan R 114 [(0, kR 186), (1, kR t), (4, kI i), (5, kI d)] m' := by
          refine up_ind (P := fun d => ∀ m' : Mem, (∀ j : Int, m' 191 j = m 191 j) → (∀ z : Int, (z < 186 ∨ 192 < z) → m' z = μ z) → Holds2 m' 187 (μ t 1) (mvV (tv μ t)) → m' 186 = m 186 → m' 192 = m 192 → (∀ e : Int, 0 ≤ e → e ≤ d → DayR (tv μ t) k m' e) → V_X2_plan R 114 [(0, kR 186), (1, kR t), (4, kI i), (5, kI d)] m') ?_ ?_
          · intro d d0 d1 ihd m' h191 hf' hmo' h186 h192 hday'
            have etv := tv_frame (fr hf')
            have hr' := hrow d (by omega) (by omega)
            have hdd := hday' d (by omega) (Int.le_refl _)
            refine vc_X2_plan_114 ht ?_
            rw [h186, e10]
            refine ⟨rr (by omega), rr (by omega), fun q => absurd q (by omega), fun _ => ⟨⟨rfl, TB_frame ⟨ht, ok⟩ (fr hf'), by rw [etv]; exact hca, by rw [etv]; exact hmo', by omega, by rw [etv, h191]; exact hr', by rw [h186, e10]; exact hk, ?_⟩, fun μ5 hq => vc_X2_plan_132 ht ?_⟩⟩
            · rw [etv]
              intro a a0 a1
              rw [hdd.2.2 (Or.inl (by omega)) a a0 a1, night_congr (g := fun b => m' 188 (8 * d + b)) (fun b b0 b1 => (hdd.1 b b0 b1).symm) a]
            · unfold Q_X2_passDay at hq
              rw [etv, h186, e10] at hq
              obtain ⟨q1, q2, q3, q4, q5, q6⟩ := hq
              have q191 : μ5 191 = m' 191 := q6 191 (by omega) (by omega) (by omega)
              have new : DayR (tv μ t) k μ5 (d + 1) := by
                have n1 : ∀ a : Int, 0 ≤ a → a < tv μ t 0 0 → μ5 188 (8 * (d + 1) + a) = lieV (tv μ t) (μ5 191) (d + 1) a := fun a a0 a1 => by
                  rw [q1 a a0 a1, q191, lieV_s (by omega)]
                  exact lieS_congr (fun b b0 b1 => hdd.1 b b0 b1) a
                refine ⟨n1, ?_, fun hq a a0 a1 => ?_⟩
                · rw [q2, q191, fbV_s (by omega), hdd.2.1, hdd.1 (m' 191 d) (by rw [h191]; exact hr'.1) (by rw [h191]; exact hr'.2)]
                · rw [q3 (by omega) a a0 a1, night_congr (fun b b0 b1 => n1 b b0 b1) a]
              refine ihd μ5 (fun j => by rw [q191, h191]) (fun z hz => by rw [q6 z (by omega) (by omega) (by omega)]; exact hf' z hz) (fun a' b' x0 x1 y0 y1 => by rw [q6 187 (by omega) (by omega) (by omega)]; exact hmo' a' b' x0 x1 y0 y1) (by rw [q6 186 (by omega) (by omega) (by omega), h186]) (by rw [q6 192 (by omega) (by omega) (by omega), h192]) (fun e e0 e1 => ?_)
              by_cases he : e = d + 1
              · rw [he]; exact new
              · have old := hday' e e0 (by omega)
                unfold DayR
                rw [q191, q5 e he]
                refine ⟨fun a a0 a1 => by rw [(q4 (8 * e + a) (by omega)).1]; exact old.1 a a0 a1, old.2.1, fun hq a a0 a1 => by rw [(q4 (8 * e + a) (by omega)).2]; exact old.2.2 hq a a0 a1⟩
          · intro m' h191 hf' hmo' h186 h192 hday'
            have etv := tv_frame (fr hf')
            have hdd := hday' (k - 1) (by omega) (Int.le_refl _)
            have hr' : ∀ j : Int, 0 ≤ j → j < k - 1 → 0 ≤ m' 191 j ∧ m' 191 j < μ t 1 := fun j j0 j1 => by rw [h191]; exact hrow j j0 j1
            refine vc_X2_plan_114 ht ?_
            rw [h186, e10]
            refine ⟨rr (by omega), rr (by omega), fun _ => ⟨⟨rfl, TB_frame ⟨ht, ok⟩ (fr hf'), by rw [h186, e10]; exact hk, ?_, ?_, by rw [h186]; exact hbd⟩, fun μ5 hq => vc_X2_plan_143 ht ?_⟩, fun q => absurd (Int.le_refl _) q⟩
            · rw [etv, h186, e10]
              intro a a0 a1
              rw [hdd.1 a a0 a1]
              have := lieV_bd ok hca (m' 191) (show 0 ≤ k - 1 by omega) (by omega) a0 a1
              omega
            · rw [h186, e10, hdd.2.1]
              exact fbV_bd ok hca hr' (by omega) (by omega)
            · unfold Q_X2_judgeLastDay at hq
              rw [etv, h186, e10] at hq
              have hT : ∀ a : Int, 0 ≤ a → a < tv μ t 0 0 → totV (tv μ t) k (dg (tv μ t 0 0) k.toNat (i * tv μ t 0 0 + a)) = m' 190 (k - 1) + m' 188 (8 * (k - 1) + a) * tv μ t 5 a * 12 := by
                intro a a0 a1
                have ed : ∀ j : Int, 0 ≤ j → j < k - 1 → dg (tv μ t 0 0) k.toNat (i * tv μ t 0 0 + a) j = m' 191 j := by
                  intro j j0 j1
                  rw [hkn, dg_last a0 a1, if_neg (by omega), hi, hpe, ← nv_congr (p := μ t 1) (r := m' 191) (r' := m 191) (m := k - 1) (fun j _ _ => h191 j)]
                  have := dg_nv (p := μ t 1) (r := m' 191) (by omega) (k - 1).toNat (by rw [hkc]; exact hr') j j0 (by omega)
                  rwa [hkc] at this
                have el : dg (tv μ t 0 0) k.toNat (i * tv μ t 0 0 + a) (k - 1) = a := by
                  rw [hkn, dg_last a0 a1, if_pos (by omega)]
                unfold totV
                rw [el, fbV_congr ed, lieV_congr ed, hdd.2.1, hdd.1 a a0 a1]
              have hj := cha_j (v := tv μ t) (k := k) (i := i) (L := fun a => m' 188 (8 * (k - 1) + a)) (fb := m' 190 (k - 1)) i0 (by show 0 ≤ μ t 1; omega) hT
              rw [hpe] at hj hq
              rw [e8] at hq
              generalize hJ : jV (tv μ t) (fun a => m' 188 (8 * (k - 1) + a)) (m' 190 (k - 1)) (chaF (tv μ t) k (i * μ t 1)).1 (μ t 1) = J at hj hq
              obtain ⟨q1, q2, q3, q4, q5, q6⟩ := hq
              have hJb : (-1 ≤ J.1 ∧ J.1 ≤ 1000000000000000000) ∧ (-1 ≤ J.2 ∧ J.2 < μ t 1 ∨ J.2 = -1) ∧ ((chaF (tv μ t) k (i * μ t 1)).1 < 0 → 0 < μ t 1 → 0 ≤ J.2) := by
                rw [← hJ]
                refine jV_bd (by rw [← e8]; exact hbd) (fun a a0 a1 => ?_) (by omega)
                have hl := lieV_bd ok hca (m' 191) (show 0 ≤ k - 1 by omega) (by omega) a0 a1
                have hb := fbV_bd ok hca hr' (show 0 ≤ k - 1 by omega) (by omega)
                have hd5 := (ok.2.2.2.1 a a0 (by omega)).2.1
                have hml := mul_bd (B := 12) hl.1 hl.2 (show 0 ≤ tv μ t 5 a by omega) hd5.2
                have hda := hdd.1 a a0 a1
                have hdb := hdd.2.1
                simp only [hda, hdb]
                omega
              have f5 : ∀ z : Int, (z < 186 ∨ 192 < z) → μ5 z = μ z := fun z hz => by rw [q6 z (by omega) (by omega) (by omega)]; exact hf' z hz
              have etv5 := tv_frame (fr f5)
              have x10 : μ5 186 10 = k := by rw [q1 10 (by omega), e10]
              refine ⟨⟨rfl, TB_frame ⟨ht, ok⟩ (fr f5), by rw [x10]; exact hk, ?_⟩, fun μ6 r hq2 => ?_⟩
              · rw [etv5, x10]
                intro j j0 j1
                rw [q5 j (by omega)]
                exact hr' j j0 j1
              · unfold Q_X2_turnRow at hq2
                rw [etv5, x10, hpe] at hq2
                obtain ⟨hq2, f6⟩ := hq2
                have g86 := f6 186 (by omega)
                have g92 := f6 192 (by omega)
                have hi' : i = nv (μ t 1) (m' 191) (k - 1) := by rw [hi]; exact nv_congr (fun j _ _ => (h191 j).symm)
                refine ih μ6 r ?_ (fun z hz => by rw [f6 z (by omega)]; exact f5 z hz) (fun a' b' x0 x1 y0 y1 => by rw [f6 187 (by omega), q6 187 (by omega) (by omega) (by omega)]; exact hmo' a' b' x0 x1 y0 y1) (by rw [g86, q1 9 (by omega), e9]) (by rw [g86, x10]) ?_ (by rw [g86, q2]; exact hJb.1) (fun _ j j0 j1 => ?_)
                · rcases hq2 with ⟨hr, hall⟩ | ⟨⟨y0, y1⟩, y2, y3, y4, y5⟩
                  · refine Or.inr ⟨hr, ?_⟩
                    rw [hi', nv_last (by omega) (fun j j0 j1 => by rw [← q5 j (by omega)]; exact (hall j j0 j1).1)]
                    omega
                  · have hnx : nv (μ t 1) (μ6 191) (k - 1) = nv (μ t 1) (m' 191) (k - 1) + 1 := nv_next y0 y1 (by rw [y3, q5 r (by omega)]) (fun j hj => by rw [y5 j hj, q5 j (by omega)]) (fun j hj j1 => by rw [← q5 j (by omega)]; exact y4 j hj j1)
                    have hrow6 : ∀ j : Int, 0 ≤ j → j < k - 1 → 0 ≤ μ6 191 j ∧ μ6 191 j < μ t 1 := by
                      intro j j0 j1
                      have hj := hr' j j0 j1
                      rw [← q5 j (by omega)] at hj
                      by_cases hjr : j < r
                      · rw [y5 j hjr]; exact hj
                      · by_cases hje : j = r
                        · subst hje; rw [y3]; omega
                        · rw [(y4 j (by omega) j1).2]; omega
                    have hb6 := nv_bd (p := μ t 1) (by omega) (show 0 ≤ k - 1 by omega) hrow6
                    refine Or.inl ⟨y0, by omega, hrow6, by rw [hi', hnx], by omega, fun d d0 d1 => ?_⟩
                    exact DayR_congr (by rw [f6 188 (by omega), q6 188 (by omega) (by omega) (by omega)]) (by rw [f6 189 (by omega), q6 189 (by omega) (by omega) (by omega)]) (by rw [f6 190 (by omega), q6 190 (by omega) (by omega) (by omega)]) (fun j j0 j1 => by rw [y5 j (by omega), q5 j (by omega)]) (hday' d d0 (by omega))
                · rw [g86, q2, hj.2]
                  by_cases q : J.2 < 0
                  · rw [if_pos q]; exact hj.1 q
                  · rw [if_neg q]
                · rw [g92, hj.2]
                  by_cases q : J.2 < 0
                  · rw [if_pos q, q3 q, h192]
                    by_cases i00 : i = 0
                    · have := hJb.2.2 (by rw [i00]; show (chaF (tv μ t) k (0 * μ t 1)).1 < 0; rw [Int.zero_mul]; show (-1 : Int) < 0; omega) (by omega)
                      omega
                    · exact hbest (by omega) j j0 j1
                  · rw [if_neg q, q4 (by omega) j j0 j1, hkn, dg_last (by omega) (by omega)]
                    by_cases hjk : j = k - 1
                    · rw [if_pos hjk, if_pos (by omega)]
                    · rw [if_neg hjk, if_neg (by omega), hi']
                      have := dg_nv (p := μ t 1) (r := m' 191) (by omega) (k - 1).toNat (by rw [hkc]; exact hr') j j0 (by omega)
                      rw [hkc] at this
                      exact this.symm
        exact pd c (Int.le_refl _) c1 m (fun _ => rfl) hf hmo rfl rfl hday
      · exact absurd hc (by omega)
    · intro m c hc hf hmo e9 e10 e8 hbd hbest
      rcases hc with ⟨_, _, _, _, hc, _⟩ | ⟨hc, _⟩
      · exact absurd hc (by omega)
      · subst hc
        refine vc_X2_plan_100 ht ⟨rr (by omega), fun q => absurd q (by omega), fun _ => ⟨rr (by omega), fun _ => hR m ⟨e9, e10, ⟨e8, hbest (by omega)⟩, hf⟩, fun q => absurd (show (-1 : Int) < 0 by omega) q⟩⟩
  -- the start
  have start : ∀ m : Mem, (∀ z : Int, (z < 186 ∨ 192 < z) → m z = μ z) → m 186 9 = μ t 0 → V_X2_plan R 28 [(0, kR 186), (1, kR t), (2, kI k)] m := by
    intro m hf e9
    refine vc_X2_plan_28 ht (vc_X2_plan_33 ht (vc_X2_plan_40 ht ?_))
    have f1 : ∀ z : Int, (z < 186 ∨ 192 < z) → updm (updm m 186 10 k) 186 8 (-1) z = μ z := fun z hz => by
      rw [ru_ne (by omega), ru_ne (by omega)]; exact hf z hz
    have x9 : updm (updm m 186 10 k) 186 8 (-1) 186 9 = μ t 0 := by simp (disch := omega) only [ru_eq, r1_ne]; exact e9
    have x10 : updm (updm m 186 10 k) 186 8 (-1) 186 10 = k := by simp (disch := omega) only [ru_eq, r1_ne, r1_eq]
    have x8 : updm (updm m 186 10 k) 186 8 (-1) 186 8 = -1 := by simp (disch := omega) only [ru_eq, r1_eq]
    generalize updm (updm m 186 10 k) 186 8 (-1) = m1 at f1 x9 x10 x8
    have etv1 := tv_frame (fr f1)
    refine ⟨⟨rfl, TB_frame ⟨ht, ok⟩ (fr f1)⟩, fun m2 hq => vc_X2_plan_45 ht ⟨⟨5, a_191, by omega⟩, vc_X2_plan_53 ht ?_⟩⟩
    unfold Q_X2_fillMoves at hq
    rw [etv1] at hq
    obtain ⟨hmo, f2⟩ := hq
    have z191 : ∀ j : Int, 0 ≤ j → j < 5 → M_J7_fill_53178 191 0 m2 191 j = 0 := fun j j0 j1 => by
      unfold M_J7_fill_53178
      rw [rs_eq]
      exact if_pos ⟨j0, by have : ((LAY (191 : Int).toNat).2 : Int) = 5 := rfl
                           omega⟩
    have f3 : ∀ z : Int, z ≠ 191 → M_J7_fill_53178 191 0 m2 z = m2 z := fun z hz => rs_ne hz
    generalize M_J7_fill_53178 191 0 m2 = m3 at z191 f3
    have pc : ∀ a : Int, 0 ≤ a → a ≤ μ t 1 → ∀ m : Mem, (∀ z : Int, z ≠ 188 → m z = m3 z) → (∀ b : Int, 0 ≤ b → b < a → m 188 b = tv μ t 4 b) → V_X2_plan R 55 [(0, kR 186), (1, kR t), (3, kI a)] m := by
      refine up_ind (P := fun a => ∀ m : Mem, (∀ z : Int, z ≠ 188 → m z = m3 z) → (∀ b : Int, 0 ≤ b → b < a → m 188 b = tv μ t 4 b) → V_X2_plan R 55 [(0, kR 186), (1, kR t), (3, kI a)] m) ?_ ?_
      · intro a a0 a1 iha m hf h1
        have et : m t = μ t := by rw [hf t (by omega), f3 t (by omega), f2 t (by omega), f1 t (by omega)]
        have e3 : m (t + 3) a = tv μ t 4 a := by rw [hf (t + 3) (by omega), f3 _ (by omega), f2 _ (by omega), f1 _ (by omega)]; exact e4 μ t a0 (by omega)
        have hc := (ok.2.2.2.1 a a0 (by omega)).1
        refine vc_X2_plan_55 ht ?_
        rw [et, e3]
        refine ⟨rr (by omega), rr (by omega), fun c => absurd c (by omega), fun _ => ⟨by omega, rr (by omega), by omega, vc_X2_plan_76 ht (iha _ (fun z z0 => by rw [ru_ne z0]; exact hf z z0) (fun b x0 x1 => ?_))⟩⟩
        rw [ru_eq]
        by_cases hb : b = a
        · rw [hb, r1_eq]
        · rw [r1_ne hb]; exact h1 b x0 (by omega)
      · intro m hf h1
        have et : m t = μ t := by rw [hf t (by omega), f3 t (by omega), f2 t (by omega), f1 t (by omega)]
        refine vc_X2_plan_55 ht ?_
        rw [et]
        refine ⟨rr (by omega), rr (by omega), fun _ => vc_X2_plan_89 ht ?_, fun c => absurd (Int.le_refl _) c⟩
        have f4 : ∀ z : Int, (z < 186 ∨ 192 < z) → updm m 190 0 0 z = μ z := fun z hz => by
          rw [ru_ne (by omega), hf z (by omega), f3 z (by omega), f2 z (by omega), f1 z hz]
        have etv4 := tv_frame (fr f4)
        have hmo4 : Holds2 (updm m 190 0 0) 187 (μ t 1) (mvV (tv μ t)) := fun a' b' x0 x1 y0 y1 => by
          rw [ru_ne (by omega), hf 187 (by omega), f3 187 (by omega)]; exact hmo a' b' x0 x1 y0 y1
        refine ⟨⟨rfl, TB_frame ⟨ht, ok⟩ (fr f4), by rw [etv4]; exact hca, by rw [etv4]; exact hmo4, by omega⟩, fun m7 hq => vc_X2_plan_95 ht ?_⟩
        unfold Q_X2_spreadOut at hq
        rw [etv4] at hq
        obtain ⟨q1, _, q3⟩ := hq
        have h8 : ∀ b : Int, 0 ≤ b → b < μ t 1 → m7 188 (8 * 0 + b) = tv μ t 4 b := fun b b0 b1 => by
          rw [q3 188 (by omega), ru_ne (by omega)]
          have : 8 * 0 + b = b := by omega
          rw [this]
          exact h1 b b0 b1
        have h191 : ∀ j : Int, 0 ≤ j → j < 5 → m7 191 j = 0 := fun j j0 j1 => by
          rw [q3 191 (by omega), ru_ne (by omega), hf 191 (by omega)]; exact z191 j j0 j1
        have g86 : m7 186 = m1 186 := by rw [q3 186 (by omega), ru_ne (by omega), hf 186 (by omega), f3 186 (by omega), f2 186 (by omega)]
        have ec : chaF (tv μ t) k (0 * μ t 1) = (-1, -1) := by rw [Int.zero_mul]; rfl
        refine pi 0 (by omega) (by omega) m7 0 (Or.inl ⟨by omega, by omega, fun j j0 j1 => by rw [h191 j j0 (by omega)]; omega, (nv_zero (by omega) (fun j j0 j1 => h191 j j0 (by omega))).symm, by omega, fun d d0 d1 => ?_⟩) (fun z hz => by rw [q3 z (by omega)]; exact f4 z hz) (fun a' b' x0 x1 y0 y1 => by rw [q3 187 (by omega)]; exact hmo4 a' b' x0 x1 y0 y1) (by rw [g86, x9]) (by rw [g86, x10]) (by rw [g86, x8, ec]) (by rw [g86, x8]; omega) (fun q => absurd q (by omega))
        have d00 : d = 0 := by omega
        subst d00
        refine ⟨h8, ?_, fun _ a a0 a1 => ?_⟩
        · rw [q3 190 (by omega), ru_eq, r1_eq]; rfl
        · rw [q1 a a0 a1]
          congr 1
          refine night_congr (fun b b0 b1 => ?_) a
          have := h8 b b0 b1
          rw [q3 188 (by omega)] at this
          exact this
    exact pc 0 (by omega) (by omega) m3 (fun _ _ => rfl) (fun b x0 x1 => absurd x0 (by omega))
  have f0 : ∀ z : Int, (z < 186 ∨ 192 < z) → updm μ 186 9 (μ t 0) z = μ z := fun z hz => ru_ne (by omega)
  refine vc_X2_plan_0 ht ⟨r1, r2, fun _ => start _ f0 (by rw [ru_eq, r1_eq]), fun c => ⟨r3, rr (by omega), fun _ => start _ f0 (by rw [ru_eq, r1_eq]), fun c2 => ?_⟩⟩
  have c' : μ 186 9 = μ t 0 := by omega
  have c2' : μ 186 10 = k := by omega
  exact hR μ ⟨c', c2', hold c' c2', fun _ _ => rfl⟩
theorem ct_X2_plan : Ct mX2_plan 3 85 0 0 (nrmS S_X2_plan) := by
  refine ct_vm (own := RX2) (by decide +kernel) rfl ?_ ?_
  · intro as μ Q hS
    unfold S_X2_plan at hS
    split at hS
    · exact Nat.le_of_ble_eq_true rfl
    · exact hS.elim
  · intro as μ R hS
    unfold S_X2_plan at hS
    split at hS
    · exact body_X2_plan hS.1 hS.2
    · exact hS.elim
