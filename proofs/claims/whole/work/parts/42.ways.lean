/-! the shortest ways, by what they are: the greatest that keeps within the lanes and the triangle -/
theorem fw_s {M : Int → Int → Int} {k : Int} (h : 0 ≤ k) : fw M (k + 1) = fwS (fw M k) k := fold_s h
theorem nat_ind {P : Int → Prop} (h0 : P 0) (hs : ∀ i : Int, 0 ≤ i → P i → P (i + 1)) : ∀ n : Int, 0 ≤ n → P n := by
  have key : ∀ k : Nat, P k := by
    intro k
    induction k with
    | zero => exact h0
    | succ k ih => exact hs k (by omega) ih
  intro n hn
  have := key n.toNat
  rwa [Int.toNat_of_nonneg hn] at this
/-- nothing below 0, nothing from a place to itself -/
def Net (N : Int) (M : Int → Int → Int) : Prop := ∀ a b : Int, 0 ≤ a → a < N → 0 ≤ b → b < N → 0 ≤ M a b ∧ M a a = 0
def Tri (N k : Int) (D : Int → Int → Int) : Prop := ∀ a b m : Int, 0 ≤ a → a < N → 0 ≤ b → b < N → 0 ≤ m → m < k → D a b ≤ D a m + D m b
def Leq (N : Int) (X Y : Int → Int → Int) : Prop := ∀ a b : Int, 0 ≤ a → a < N → 0 ≤ b → b < N → X a b ≤ Y a b
theorem fw_le {M : Int → Int → Int} {k : Int} (a b : Int) (h : 0 ≤ k) : fw M k a b ≤ M a b := by
  refine nat_ind (P := fun k => fw M k a b ≤ M a b) (Int.le_refl _) (fun i i0 ih => ?_) k h
  rw [fw_s i0]
  have : fwS (fw M i) i a b ≤ fw M i a b := Int.min_le_left _ _
  omega
theorem fw_net {N : Int} {M : Int → Int → Int} (hM : Net N M) {k : Int} (h0 : 0 ≤ k) (h1 : k ≤ N) : Net N (fw M k) := by
  refine nat_ind (P := fun k => k ≤ N → Net N (fw M k)) (fun _ => hM) (fun i i0 ih h1 => ?_) k h0 h1
  have h := ih (by omega)
  rw [fw_s i0]
  intro a b a0 a1 b0 b1
  have q1 := (h a b a0 a1 b0 b1).1
  have q2 := (h a b a0 a1 b0 b1).2
  have q3 := (h a i a0 a1 i0 (by omega)).1
  have q4 := (h i b i0 (by omega) b0 b1).1
  have q5 := (h i a i0 (by omega) a0 a1).1
  unfold fwS
  omega
theorem fw_tri {N : Int} {M : Int → Int → Int} (hM : Net N M) {k : Int} (h0 : 0 ≤ k) (h1 : k ≤ N) : Tri N k (fw M k) := by
  refine nat_ind (P := fun k => k ≤ N → Tri N k (fw M k)) (fun _ a b m _ _ _ _ m0 m1 => absurd m0 (by omega)) (fun i i0 ih h1 => ?_) k h0 h1
  have h := ih (by omega)
  have hn := fw_net hM i0 (show i ≤ N by omega)
  rw [fw_s i0]
  intro a b m a0 a1 b0 b1 m0 m1
  unfold fwS
  have zi := (hn i i i0 (by omega) i0 (by omega)).2
  have nim := (hn i m i0 (by omega) m0 (by omega)).1
  have nmi := (hn m i m0 (by omega) i0 (by omega)).1
  by_cases hm : m = i
  · subst hm
    omega
  · have t1 := h a b m a0 a1 b0 b1 m0 (by omega)
    have t2 := h i b m i0 (by omega) b0 b1 m0 (by omega)
    have t3 := h a i m a0 a1 i0 (by omega) m0 (by omega)
    omega
theorem fw_max {N : Int} {M X : Int → Int → Int} {k : Int} (hX : Leq N X M) (ht : Tri N k X) (h0 : 0 ≤ k) (h1 : k ≤ N) : Leq N X (fw M k) := by
  have key : ∀ j : Int, 0 ≤ j → j ≤ k → Leq N X (fw M j) := by
    intro j hj
    refine nat_ind (P := fun j => j ≤ k → Leq N X (fw M j)) (fun _ => hX) (fun i i0 ih h2 => ?_) j hj
    have h := ih (by omega)
    rw [fw_s i0]
    intro a b a0 a1 b0 b1
    have q1 := h a b a0 a1 b0 b1
    have q2 := h a i a0 a1 i0 (by omega)
    have q3 := h i b i0 (by omega) b0 b1
    have q4 := ht a b i a0 a1 b0 b1 i0 (by omega)
    unfold fwS
    omega
  exact key k h0 (Int.le_refl _)
/-- what keeps within the lanes and the triangle and is greatest is the shortest ways -/
theorem fw_uniq {N : Int} {M X : Int → Int → Int} (hM : Net N M) (hN : 0 ≤ N) (hX : Leq N X M) (ht : Tri N N X) (hg : ∀ Y : Int → Int → Int, Leq N Y M → Tri N N Y → Leq N Y X) {a b : Int} (a0 : 0 ≤ a) (a1 : a < N) (b0 : 0 ≤ b) (b1 : b < N) : fw M N a b = X a b := by
  have h1 := fw_max hX ht hN (Int.le_refl _) a b a0 a1 b0 b1
  have h2 := hg (fw M N) (fun a b _ _ _ _ => fw_le a b hN) (fw_tri hM hN (Int.le_refl _)) a b a0 a1 b0 b1
  omega
/-- the last lane of a way -/
theorem fw_last {N : Int} {M : Int → Int → Int} {inf : Int} (hM : Net N M) (hN : 0 ≤ N) {s a : Int} (s0 : 0 ≤ s) (s1 : s < N) (a0 : 0 ≤ a) (a1 : a < N) (hsa : s ≠ a) (hi : fw M N s a < inf) : ∃ b : Int, (0 ≤ b ∧ b < N) ∧ b ≠ a ∧ M b a < inf ∧ fw M N s a = fw M N s b + M b a := by
  have hn := fw_net hM hN (Int.le_refl _)
  have ht := fw_tri hM hN (Int.le_refl _)
  have key : ∀ k : Int, 0 ≤ k → k ≤ N → ∀ s : Int, 0 ≤ s → s < N → s ≠ a → fw M k s a < inf → ∃ b : Int, (0 ≤ b ∧ b < N) ∧ b ≠ a ∧ M b a < inf ∧ fw M N s b + M b a ≤ fw M k s a := by
    intro k hk
    refine nat_ind (P := fun k => k ≤ N → ∀ s : Int, 0 ≤ s → s < N → s ≠ a → fw M k s a < inf → ∃ b : Int, (0 ≤ b ∧ b < N) ∧ b ≠ a ∧ M b a < inf ∧ fw M N s b + M b a ≤ fw M k s a) (fun _ s s0 s1 hs hi => ⟨s, ⟨s0, s1⟩, hs, hi, ?_⟩) (fun i i0 ih h1 s s0 s1 hs hi => ?_) k hk
    · have := (hn s s s0 s1 s0 s1).2
      show fw M N s s + M s a ≤ M s a
      omega
    · have hni := fw_net hM i0 (show i ≤ N by omega)
      rw [fw_s i0] at hi ⊢
      have e : fwS (fw M i) i s a = min (fw M i s a) (fw M i s i + fw M i i a) := rfl
      rw [e] at hi ⊢
      by_cases c : fw M i s a ≤ fw M i s i + fw M i i a
      · rw [Int.min_eq_left c] at hi ⊢
        exact ih (by omega) s s0 s1 hs hi
      · rw [Int.min_eq_right (by omega)] at hi ⊢
        have nsi := (hni s i s0 s1 i0 (by omega)).1
        by_cases hia : i = a
        · subst hia
          have := (hni i i a0 a1 a0 a1).2
          omega
        · obtain ⟨b, hb, hba, hl, he⟩ := ih (by omega) i i0 (by omega) hia (by omega)
          refine ⟨b, hb, hba, hl, ?_⟩
          have t1 := ht s b i s0 s1 hb.1 hb.2 i0 (by omega)
          have t2 : fw M N s i ≤ fw M i s i := by
            refine fw_max (k := i) (fun a b _ _ _ _ => fw_le a b hN) (fun a b m a0 a1 b0 b1 m0 m1 => ht a b m a0 a1 b0 b1 m0 (by omega)) i0 (by omega) s i s0 s1 i0 (by omega)
          omega
  obtain ⟨b, hb, hba, hl, he⟩ := key N hN (Int.le_refl _) s s0 s1 hsa hi
  refine ⟨b, hb, hba, hl, ?_⟩
  have t1 := ht s a b s0 s1 a0 a1 hb.1 hb.2
  have t2 : fw M N b a ≤ M b a := fw_le b a hN
  omega
/-- how many of the first n places hold -/
def cnt (p : Int → Bool) (n : Int) : Int := sm (fun i => if p i then 1 else 0) n
theorem cnt_bd {p : Int → Bool} {n : Int} (h : 0 ≤ n) : 0 ≤ cnt p n ∧ cnt p n ≤ n := by
  have := sm_bd (f := fun i => if p i then 1 else 0) (n := n) (c := 0) (d := 1) (fun i _ _ => by show 0 ≤ (if p i then (1 : Int) else 0) ∧ (if p i then (1 : Int) else 0) ≤ 1; split <;> omega) h
  unfold cnt
  omega
theorem cnt_lt {p q : Int → Bool} {n x : Int} (h : ∀ i, 0 ≤ i → i < n → p i = true → q i = true) (x0 : 0 ≤ x) (x1 : x < n) (hp : p x = false) (hq : q x = true) : cnt p n < cnt q n := by
  have h1 : sm (fun i => (if p i then 1 else 0) + (if i = x then 1 else 0)) n ≤ cnt q n := by
    refine sm_le (fun i i0 i1 => ?_) (by omega)
    show (if p i then (1 : Int) else 0) + (if i = x then 1 else 0) ≤ (if q i then 1 else 0)
    by_cases c : i = x
    · subst c; rw [hp, hq]; simp
    · rw [if_neg c]
      have := h i i0 i1
      cases hpi : p i <;> cases hqi : q i <;> simp_all
  rw [sm_add (by omega), sm_one (by omega), if_pos ⟨x0, x1⟩] at h1
  unfold cnt at h1 ⊢
  omega
/-- a way has no more lanes than there are other places -/
theorem fw_len {N : Int} {M : Int → Int → Int} {inf L : Int} (hM : Net N M) (hN : 0 ≤ N) (hL : 0 ≤ L) (hl : ∀ a b : Int, 0 ≤ a → a < N → 0 ≤ b → b < N → a ≠ b → M a b < inf → 0 < M a b ∧ M a b ≤ L) {s : Int} (s0 : 0 ≤ s) (s1 : s < N) : ∀ k : Nat, ∀ a : Int, 0 ≤ a → a < N → fw M N s a < inf → cnt (fun b => decide (fw M N s b < fw M N s a)) N ≤ k → fw M N s a ≤ L * k
  | 0, a, a0, a1, hi, hc => by
    by_cases hsa : s = a
    · subst hsa
      have := (fw_net hM hN (Int.le_refl _) s s s0 s1 s0 s1).2
      omega
    · obtain ⟨b, hb, hba, hlt, he⟩ := fw_last hM hN s0 s1 a0 a1 hsa hi
      have hp := hl b a hb.1 hb.2 a0 a1 hba hlt
      have h1 := cnt_lt (p := fun _ => false) (q := fun b => decide (fw M N s b < fw M N s a)) (n := N) (x := b) (fun _ _ _ q => by simp at q) hb.1 hb.2 rfl (by simp; omega)
      have h2 := cnt_bd (p := fun _ => false) hN
      omega
  | k + 1, a, a0, a1, hi, hc => by
    have e : L * ((k + 1 : Nat) : Int) = L * (k : Int) + L := by
      have : ((k + 1 : Nat) : Int) = (k : Int) + 1 := by omega
      rw [this, Int.mul_add]; omega
    by_cases hsa : s = a
    · subst hsa
      have := (fw_net hM hN (Int.le_refl _) s s s0 s1 s0 s1).2
      have : 0 ≤ L * (k : Int) := Int.mul_nonneg hL (by omega)
      omega
    · obtain ⟨b, hb, hba, hlt, he⟩ := fw_last hM hN s0 s1 a0 a1 hsa hi
      have hp := hl b a hb.1 hb.2 a0 a1 hba hlt
      have h1 := cnt_lt (p := fun c => decide (fw M N s c < fw M N s b)) (q := fun c => decide (fw M N s c < fw M N s a)) (n := N) (x := b) (fun i _ _ q => by simp at q ⊢; omega) hb.1 hb.2 (by simp) (by simp; omega)
      have := fw_len hM hN hL hl s0 s1 k b hb.1 hb.2 (by omega) (by omega)
      omega
