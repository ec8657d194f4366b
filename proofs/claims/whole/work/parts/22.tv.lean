/-! a town's value: 0 places, 1 lanes, 2 prize, 3 move, 4 chances, 5 dog, 6 dig, 7 minutes (8 a + b), 8 walks, 9 stops of a walk, 10 weight of a walk, 11 stops (16 w + i), 12 days, 13 diary -/
abbrev TV : Type := Nat → Int → Int
def clip (n : Int) (f : Int → Int) : Int → Int := fun j => if 0 ≤ j ∧ j < n then f j else 0
theorem clip_in {n j : Int} {f : Int → Int} (h0 : 0 ≤ j) (h1 : j < n) : clip n f j = f j := if_pos ⟨h0, h1⟩
def tv (μ : Mem) (t : Int) : TV := fun f => match f with
  | 0 => fun _ => μ t 1
  | 1 => fun _ => μ t 2
  | 2 => fun _ => μ t 5
  | 3 => fun _ => μ t 6
  | 4 => clip 8 (μ (t + 3))
  | 5 => clip 8 (μ (t + 4))
  | 6 => clip 8 (μ (t + 5))
  | 7 => clip 64 (μ (t + 1))
  | 8 => fun _ => μ t 12
  | 9 => clip (μ t 12) (μ (t + 7))
  | 10 => clip (μ t 12) (μ (t + 8))
  | 11 => fun j => if 0 ≤ j ∧ j / 16 < μ t 12 ∧ j % 16 < μ (t + 7) (j / 16) then μ (t + 6) j else 0
  | 12 => fun _ => μ t 16
  | _ => clip (μ t 16) (μ (t + 9))
/-- what holds of every town that was taken -/
def TVok (v : TV) : Prop := (2 ≤ v 0 0 ∧ v 0 0 ≤ 8) ∧ (0 ≤ v 2 0 ∧ v 2 0 ≤ 999) ∧ (0 ≤ v 3 0 ∧ v 3 0 ≤ 12) ∧
  (∀ a : Int, 0 ≤ a → a < 8 → (0 ≤ v 4 a ∧ v 4 a ≤ 99) ∧ (1 ≤ v 5 a ∧ v 5 a ≤ 12) ∧ (1 ≤ v 6 a ∧ v 6 a ≤ 99)) ∧ (∀ a : Int, v 0 0 ≤ a → a < 8 → v 4 a = 0) ∧
  (∀ j : Int, 0 ≤ j → j < 64 → 0 ≤ v 7 j ∧ v 7 j ≤ 20) ∧ (∀ a b : Int, 0 ≤ a → a < 8 → 0 ≤ b → b < 8 → v 7 (8 * a + b) = v 7 (8 * b + a) ∧ v 7 (8 * a + a) = 0 ∧ (v 0 0 ≤ a → v 7 (8 * a + b) = 0)) ∧
  (0 ≤ v 8 0 ∧ v 8 0 ≤ 8) ∧ (∀ w : Int, 0 ≤ w → w < v 8 0 → (0 ≤ v 9 w ∧ v 9 w ≤ 16) ∧ (0 ≤ v 10 w ∧ v 10 w ≤ 99) ∧ ∀ i : Int, 0 ≤ i → i < v 9 w → 0 ≤ v 11 (16 * w + i) ∧ v 11 (16 * w + i) < v 0 0) ∧
  (0 ≤ v 12 0 ∧ v 12 0 ≤ 7) ∧ (∀ i : Int, 0 ≤ i → i < v 12 0 → 0 ≤ v 13 i ∧ v 13 i < v 0 0)
theorem rr {a : Int} (h : -2147483648 ≤ a ∧ a ≤ 2147483647) : r32 a := h
theorem rl {a : Int} (h : -9223372036854775808 ≤ a ∧ a ≤ 9223372036854775807) : r64 a := h
/-- backwards through a loop that counts up -/
theorem up_ind {P : Int → Prop} {lo hi : Int} (step : ∀ i, lo ≤ i → i < hi → P (i + 1) → P i) (last : P hi) : ∀ i, lo ≤ i → i ≤ hi → P i := by
  have key : ∀ (n : Nat) (i : Int), lo ≤ i → i ≤ hi → hi - i = n → P i := by
    intro n
    induction n with
    | zero =>
      intro i h0 h1 h2
      have : i = hi := by omega
      rw [this]; exact last
    | succ n ih =>
      intro i h0 h1 h2
      exact step i h0 (by omega) (ih (i + 1) (by omega) (by omega) (by omega))
  intro i h0 h1
  exact key (hi - i).toNat i h0 h1 (by omega)
/-- backwards through a loop that counts down -/
theorem dn_ind {P : Int → Prop} {lo hi : Int} (step : ∀ i, lo < i → i ≤ hi → P (i - 1) → P i) (last : P lo) : ∀ i, lo ≤ i → i ≤ hi → P i := by
  have key : ∀ (n : Nat) (i : Int), lo ≤ i → i ≤ hi → i - lo = n → P i := by
    intro n
    induction n with
    | zero =>
      intro i h0 h1 h2
      have : i = lo := by omega
      rw [this]; exact last
    | succ n ih =>
      intro i h0 h1 h2
      exact step i (by omega) h1 (ih (i - 1) (by omega) (by omega) (by omega))
  intro i h0 h1
  exact key (i - lo).toNat i h0 h1 (by omega)
/-- folds over 0 .. n - 1 -/
def foldN {α : Type} (f : α → Int → α) (x : α) : Nat → α
  | 0 => x
  | n + 1 => f (foldN f x n) n
def fold {α : Type} (f : α → Int → α) (x : α) (n : Int) : α := foldN f x n.toNat
theorem fold_0 {α : Type} {f : α → Int → α} {x : α} : fold f x 0 = x := rfl
theorem fold_s {α : Type} {f : α → Int → α} {x : α} {n : Int} (h : 0 ≤ n) : fold f x (n + 1) = f (fold f x n) n := by
  unfold fold
  have e : (n + 1).toNat = n.toNat + 1 := by omega
  rw [e]
  show f (foldN f x n.toNat) ((n.toNat : Nat) : Int) = _
  rw [Int.toNat_of_nonneg h]
theorem fold_ind {α : Type} {f : α → Int → α} {x : α} {n : Int} (P : Int → α → Prop) (h0 : P 0 x) (hs : ∀ i y, 0 ≤ i → i < n → P i y → P (i + 1) (f y i)) (hn : 0 ≤ n) : P n (fold f x n) := by
  have key : ∀ k : Nat, (k : Int) ≤ n → P k (fold f x k) := by
    intro k
    induction k with
    | zero => intro _; exact h0
    | succ k ih =>
      intro hk
      have e : ((k + 1 : Nat) : Int) = (k : Int) + 1 := by omega
      rw [e, fold_s (by omega)]
      exact hs k _ (by omega) (by omega) (ih (by omega))
  have := key n.toNat (by omega)
  rwa [Int.toNat_of_nonneg hn] at this
theorem fold_congr {α : Type} {f g : α → Int → α} {x : α} {n : Int} (h : ∀ y i, 0 ≤ i → i < n → f y i = g y i) : fold f x n = fold g x n := by
  by_cases hn : 0 ≤ n
  · exact fold_ind (P := fun i y => i ≤ n → y = fold g x i) (fun _ => rfl) (fun i y h0 h1 ih _ => by rw [fold_s h0, ← ih (by omega)]; exact h y i h0 h1) hn (Int.le_refl n)
  · have : n.toNat = 0 := by omega
    unfold fold
    rw [this]
    rfl
def sm (f : Int → Int) (n : Int) : Int := fold (fun s i => s + f i) 0 n
theorem sm_0 {f : Int → Int} : sm f 0 = 0 := rfl
theorem sm_s {f : Int → Int} {n : Int} (h : 0 ≤ n) : sm f (n + 1) = sm f n + f n := fold_s h
theorem sm_congr {f g : Int → Int} {n : Int} (h : ∀ i, 0 ≤ i → i < n → f i = g i) : sm f n = sm g n := fold_congr fun y i h0 h1 => by rw [h i h0 h1]
theorem sm_bd {f : Int → Int} {n c d : Int} (h : ∀ i, 0 ≤ i → i < n → c ≤ f i ∧ f i ≤ d) (hn : 0 ≤ n) : n * c ≤ sm f n ∧ sm f n ≤ n * d :=
  fold_ind (P := fun i y => i * c ≤ y ∧ y ≤ i * d) (by simp) (fun i y h0 h1 q => by
    have := h i h0 h1
    rw [Int.add_mul, Int.add_mul]
    omega) hn
/-- the shortest ways -/
def fwS (M : Int → Int → Int) (m : Int) : Int → Int → Int := fun a b => min (M a b) (M a m + M m b)
def fwI (inf : Int) (mn : Int → Int) : Int → Int → Int := fun a b => if a = b then 0 else if mn (8 * a + b) = 0 then inf else mn (8 * a + b)
def fw (M : Int → Int → Int) (n : Int) : Int → Int → Int := fold fwS M n
def wayV (v : TV) : Int → Int → Int := fw (fwI 1000000 (v 7)) (v 0 0)
theorem r_eq {R : Mem → Option AV → Prop} {μ : Mem} {x z : Int} (h : R μ (some (kI x))) (e : x = z) : R μ (some (kI z)) := e ▸ h
theorem l_eq {R : Mem → Option AV → Prop} {μ : Mem} {x z : Int} (h : R μ (some (kL x))) (e : x = z) : R μ (some (kL z)) := e ▸ h
theorem m_eq {R : Mem → Option AV → Prop} {μ μ' : Mem} {r : Option AV} (h : R μ r) (e : μ = μ') : R μ' r := e ▸ h
theorem v_eq {y : Mt} {own : String} {fr lo : Nat} {R : Mem → Option AV → Prop} {pc : Nat} {lc lc' : List (Nat × AV)} {μ μ' : Mem} (h : VM y own fr lo R pc lc [] μ) (e : lc = lc') (e2 : μ = μ') : VM y own fr lo R pc lc' [] μ' := by
  subst e; subst e2; exact h
