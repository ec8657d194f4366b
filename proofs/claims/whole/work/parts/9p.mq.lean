/-! a text as the model reads it -/
def ShV (v : TV) : Prop := (∀ j : Int, v 0 j = v 0 0 ∧ v 1 j = v 1 0 ∧ v 2 j = v 2 0 ∧ v 3 j = v 3 0) ∧ (∀ j : Int, ¬ (0 ≤ j ∧ j < 8) → v 4 j = 0 ∧ v 5 j = 0 ∧ v 6 j = 0) ∧ (∀ j : Int, ¬ (0 ≤ j ∧ j < 64) → v 7 j = 0) ∧ ∀ (f : Nat) (j : Int), 8 ≤ f → v f j = 0
theorem Sh_beg {p : Int} : ShV (begV p) := by
  refine ⟨fun j => ⟨rfl, rfl, rfl, rfl⟩, fun j hj => ⟨rfl, if_neg hj, if_neg hj⟩, fun j _ => rfl, fun f j hf => ?_⟩
  match f, hf with
  | f + 8, _ => rfl
theorem Sh_set {v : TV} {f : Nat} {a x : Int} (h : ShV v) (hf : f = 4 ∨ f = 5 ∨ f = 6) (a0 : 0 ≤ a) (a1 : a < 8) : ShV (setV v f a x) := by
  obtain ⟨h1, h2, h3, h4⟩ := h
  have sv : ∀ g : Nat, g ≠ f → setV v f a x g = v g := fun g hg => if_neg hg
  have se : setV v f a x f = upd1 (v f) a x := if_pos rfl
  refine ⟨fun j => by rw [sv 0 (by omega), sv 1 (by omega), sv 2 (by omega), sv 3 (by omega)]; exact h1 j, fun j hj => ?_, fun j hj => by rw [sv 7 (by omega)]; exact h3 j hj, fun g j hg => by rw [sv g (by omega)]; exact h4 g j hg⟩
  have := h2 j hj
  have hja : j ≠ a := by omega
  rcases hf with e | e | e <;> subst e
  · rw [se, sv 5 (by omega), sv 6 (by omega), r1_ne hja]; exact this
  · rw [se, sv 4 (by omega), sv 6 (by omega), r1_ne hja]; exact this
  · rw [se, sv 4 (by omega), sv 5 (by omega), r1_ne hja]; exact this
theorem Sh_setP {v : TV} {f : Nat} {x : Int} (h : ShV v) (hf : f = 2 ∨ f = 3) : ShV (setP v f x) := by
  obtain ⟨h1, h2, h3, h4⟩ := h
  have sv : ∀ g : Nat, g ≠ f → setP v f x g = v g := fun g hg => if_neg hg
  have se : setP v f x f = fun _ => x := if_pos rfl
  refine ⟨fun j => ?_, fun j hj => by rw [sv 4 (by omega), sv 5 (by omega), sv 6 (by omega)]; exact h2 j hj, fun j hj => by rw [sv 7 (by omega)]; exact h3 j hj, fun g j hg => by rw [sv g (by omega)]; exact h4 g j hg⟩
  have := h1 j
  rcases hf with e | e <;> subst e
  · rw [se, sv 0 (by omega), sv 1 (by omega), sv 3 (by omega)]; exact ⟨this.1, this.2.1, rfl, this.2.2.2⟩
  · rw [se, sv 0 (by omega), sv 1 (by omega), sv 2 (by omega)]; exact ⟨this.1, this.2.1, this.2.2.1, rfl⟩
theorem Sh_add {v : TV} {a b k : Int} (h : ShV v) (a0 : 0 ≤ a) (a1 : a < 8) (b0 : 0 ≤ b) (b1 : b < 8) : ShV (addLV v a b k) := by
  obtain ⟨h1, h2, h3, h4⟩ := h
  refine ⟨fun j => ⟨(h1 j).1, rfl, (h1 j).2.2.1, (h1 j).2.2.2⟩, fun j hj => h2 j hj, fun j hj => ?_, fun g j hg => ?_⟩
  · show (if j = 8 * b + a ∨ j = 8 * a + b then k else v 7 j) = 0
    rw [if_neg (by omega)]
    exact h3 j hj
  · match g, hg with
    | g + 8, hg => exact h4 (g + 8) j hg
/-- a line that tells no fault keeps the form; a fault stands at one of its tokens -/
theorem Sh_line {K S V : Int → Int} {p : Int} {v : TV} (hv : RdOk v) (h : ShV v) (h0 : (lineV K S V p v).1.1 = 0) : ShV (lineV K S V p v).2 := by
  have hp := hv.1.1
  have pl : ∀ (f : Nat) (lo hi : Int), (f = 4 ∨ f = 5 ∨ f = 6) → (plcV S V p v f lo hi).1.1 = 0 → ShV (plcV S V p v f lo hi).2 := fun f lo hi hf h0 => by
    unfold plcV at h0 ⊢
    by_cases c : ¬ (0 ≤ V (p + 1) ∧ V (p + 1) < v 0 0)
    · rw [if_pos c] at h0
      exact absurd (show (2 : Int) = 0 from h0) (by omega)
    · rw [if_neg c] at h0 ⊢
      by_cases d : ¬ (lo ≤ V (p + 2) ∧ V (p + 2) ≤ hi)
      · rw [if_pos d] at h0
        exact absurd (show (2 : Int) = 0 from h0) (by omega)
      · rw [if_neg d]
        exact Sh_set h hf (by omega) (by omega)
  have on : ∀ (f : Nat) (hi : Int), (f = 2 ∨ f = 3) → (onlV S V p v f hi).1.1 = 0 → ShV (onlV S V p v f hi).2 := fun f hi hf h0 => by
    unfold onlV at h0 ⊢
    by_cases d : ¬ (0 ≤ V (p + 1) ∧ V (p + 1) ≤ hi)
    · rw [if_pos d] at h0
      exact absurd (show (2 : Int) = 0 from h0) (by omega)
    · rw [if_neg d]
      exact Sh_setP h hf
  unfold lineV at h0 ⊢
  by_cases k4 : K p = 4
  · rw [if_pos k4] at h0 ⊢
    unfold lanV at h0 ⊢
    split at h0
    · exact absurd (show (3 : Int) = 0 from h0) (by omega)
    · rename_i c1
      rw [if_neg c1]
      split at h0
      · exact absurd (show (2 : Int) = 0 from h0) (by omega)
      · rename_i c2
        rw [if_neg c2]
        split at h0
        · exact absurd (show (2 : Int) = 0 from h0) (by omega)
        · rename_i c3
          rw [if_neg c3]
          split at h0
          · exact absurd (show (2 : Int) = 0 from h0) (by omega)
          · rename_i c4
            rw [if_neg c4]
            exact Sh_add h (by omega) (by omega) (by omega) (by omega)
  rw [if_neg k4] at h0 ⊢
  by_cases k5 : K p = 5
  · rw [if_pos k5] at h0 ⊢; exact pl 4 0 99 (by omega) h0
  rw [if_neg k5] at h0 ⊢
  by_cases k6 : K p = 6
  · rw [if_pos k6] at h0 ⊢; exact pl 5 1 12 (by omega) h0
  rw [if_neg k6] at h0 ⊢
  by_cases k7 : K p = 7
  · rw [if_pos k7] at h0 ⊢; exact pl 6 1 99 (by omega) h0
  rw [if_neg k7] at h0 ⊢
  by_cases k8 : K p = 8
  · rw [if_pos k8] at h0 ⊢; exact on 2 999 (by omega) h0
  rw [if_neg k8] at h0 ⊢
  exact on 3 12 (by omega) h0
theorem line_place {K S V : Int → Int} {p M : Int} {v : TV} (h4 : 4 ≤ K p ∧ K p ≤ 9) (hS : ∀ j : Int, 0 ≤ j → j ≤ nbK (K p) → S (p + j) < M) (h0 : (lineV K S V p v).1.1 ≠ 0) : (lineV K S V p v).1.2 < M := by
  have s0 := hS 0 (by omega)
  rw [Int.add_zero] at s0
  have s1 := hS 1 (by omega)
  have s2 := hS 2 (by omega)
  have s3 := hS 3 (by omega)
  have pl : ∀ (f : Nat) (lo hi : Int), nbK (K p) = 2 → (plcV S V p v f lo hi).1.1 ≠ 0 → (plcV S V p v f lo hi).1.2 < M := fun f lo hi nb h0 => by
    unfold plcV at h0 ⊢
    by_cases c : ¬ (0 ≤ V (p + 1) ∧ V (p + 1) < v 0 0)
    · rw [if_pos c]; exact s1 (by omega)
    · rw [if_neg c] at h0 ⊢
      by_cases d : ¬ (lo ≤ V (p + 2) ∧ V (p + 2) ≤ hi)
      · rw [if_pos d]; exact s2 (by omega)
      · rw [if_neg d] at h0
        exact absurd rfl h0
  have on : ∀ (f : Nat) (hi : Int), nbK (K p) = 1 → (onlV S V p v f hi).1.1 ≠ 0 → (onlV S V p v f hi).1.2 < M := fun f hi nb h0 => by
    unfold onlV at h0 ⊢
    by_cases d : ¬ (0 ≤ V (p + 1) ∧ V (p + 1) ≤ hi)
    · rw [if_pos d]; exact s1 (by omega)
    · rw [if_neg d] at h0
      exact absurd rfl h0
  unfold lineV at h0 ⊢
  by_cases k4 : K p = 4
  · have nb : nbK (K p) = 3 := by rw [k4]; rfl
    rw [if_pos k4] at h0 ⊢
    unfold lanV at h0 ⊢
    split at h0
    · rename_i c1
      rw [if_pos c1]; exact s0 (by omega)
    · rename_i c1
      rw [if_neg c1]
      split at h0
      · rename_i c2
        rw [if_pos c2]; exact s1 (by omega)
      · rename_i c2
        rw [if_neg c2]
        split at h0
        · rename_i c3
          rw [if_pos c3]; exact s2 (by omega)
        · rename_i c3
          rw [if_neg c3]
          split at h0
          · rename_i c4
            rw [if_pos c4]; exact s3 (by omega)
          · exact absurd rfl h0
  rw [if_neg k4] at h0 ⊢
  by_cases k5 : K p = 5
  · rw [if_pos k5] at h0 ⊢; exact pl 4 0 99 (by rw [k5]; rfl) h0
  rw [if_neg k5] at h0 ⊢
  by_cases k6 : K p = 6
  · rw [if_pos k6] at h0 ⊢; exact pl 5 1 12 (by rw [k6]; rfl) h0
  rw [if_neg k6] at h0 ⊢
  by_cases k7 : K p = 7
  · rw [if_pos k7] at h0 ⊢; exact pl 6 1 99 (by rw [k7]; rfl) h0
  rw [if_neg k7] at h0 ⊢
  by_cases k8 : K p = 8
  · rw [if_pos k8] at h0 ⊢; exact on 2 999 (by rw [k8]; rfl) h0
  rw [if_neg k8] at h0 ⊢
  exact on 3 12 (by rw [show K p = 9 by omega]; rfl) h0
theorem KT_lt {tx : Int → Int} {n : Int} (hn : 0 ≤ n) : ∀ i : Int, 0 ≤ i → stT tx n i < n → i ≤ stT tx n i := by
  refine nat_ind (P := fun i => stT tx n i < n → i ≤ stT tx n i) (fun _ => (stT_bd hn (Int.le_refl 0)).1) (fun i i0 ih h => ?_)
  by_cases c : stT tx n i < n
  · have := stT_lt hn i0 c
    have := ih c
    omega
  · have := stT_end hn i0 c (i + 1) (by omega)
    omega
/-- a town as it was read -/
theorem tm_read {v : TV} {m : Mem} {f : Int → Int} {b : Int} (h1 : ∀ i : Int, 0 ≤ i → i < 104 → f (b + i) = m 204 i) (h2 : ∀ i : Int, 104 ≤ i → i < 260 → f (b + i) = 0) (hr : RVm v m) (hs : ShV v) : tmF f b = v := by
  obtain ⟨r0, r1, r2, r3, r4, r7, r8⟩ := hr
  obtain ⟨s1, s2, s3, s4⟩ := hs
  have f4 : f (b + 4) = 0 := by rw [h1 4 (by omega) (by omega), r8]
  have f250 : f (b + 250) = 0 := h2 250 (by omega) (by omega)
  have f0 : f b = v 0 0 := by have := h1 0 (by omega) (by omega); rw [Int.add_zero, r0] at this; exact this
  have c0 : ∀ g : Int → Int, clip 0 g = fun _ => 0 := fun g => by funext j; unfold clip; rw [if_neg (by omega)]
  funext k j
  match k with
  | 0 => show f b = v 0 j; rw [f0, (s1 j).1]
  | 1 => show f (b + 1) = v 1 j; rw [h1 1 (by omega) (by omega), r1, (s1 j).2.1]
  | 2 => show f (b + 2) = v 2 j; rw [h1 2 (by omega) (by omega), r2, (s1 j).2.2.1]
  | 3 => show f (b + 3) = v 3 j; rw [h1 3 (by omega) (by omega), r3, (s1 j).2.2.2]
  | 4 =>
    show clip 8 (fun j => f (b + 10 + j)) j = v 4 j
    unfold clip
    by_cases c : 0 ≤ j ∧ j < 8
    · rw [if_pos c]
      show f (b + 10 + j) = v 4 j
      rw [show b + 10 + j = b + (10 + j) by omega, h1 _ (by omega) (by omega), (r4 j c.1 c.2).1]
    · rw [if_neg c, (s2 j c).1]
  | 5 =>
    show clip 8 (fun j => f (b + 20 + j)) j = v 5 j
    unfold clip
    by_cases c : 0 ≤ j ∧ j < 8
    · rw [if_pos c]
      show f (b + 20 + j) = v 5 j
      rw [show b + 20 + j = b + (20 + j) by omega, h1 _ (by omega) (by omega), (r4 j c.1 c.2).2.1]
    · rw [if_neg c, (s2 j c).2.1]
  | 6 =>
    show clip 8 (fun j => f (b + 30 + j)) j = v 6 j
    unfold clip
    by_cases c : 0 ≤ j ∧ j < 8
    · rw [if_pos c]
      show f (b + 30 + j) = v 6 j
      rw [show b + 30 + j = b + (30 + j) by omega, h1 _ (by omega) (by omega), (r4 j c.1 c.2).2.2]
    · rw [if_neg c, (s2 j c).2.2]
  | 7 =>
    show clip 64 (fun j => f (b + 40 + j)) j = v 7 j
    unfold clip
    by_cases c : 0 ≤ j ∧ j < 64
    · rw [if_pos c]
      show f (b + 40 + j) = v 7 j
      rw [show b + 40 + j = b + (40 + j) by omega, h1 _ (by omega) (by omega), r7 j c.1 c.2]
    · rw [if_neg c, s3 j c]
  | 8 => show f (b + 4) = v 8 j; rw [f4, s4 8 j (by omega)]
  | 9 => show clip (f (b + 4)) (fun w => f (b + 104 + 18 * w)) j = v 9 j; rw [f4, c0, s4 9 j (by omega)]
  | 10 => show clip (f (b + 4)) (fun w => f (b + 105 + 18 * w)) j = v 10 j; rw [f4, c0, s4 10 j (by omega)]
  | 11 =>
    show (if 0 ≤ j ∧ j / 16 < f (b + 4) ∧ j % 16 < f (b + 104 + 18 * (j / 16)) then f (b + 106 + 18 * (j / 16) + j % 16) else 0) = v 11 j
    rw [f4, if_neg (by omega), s4 11 j (by omega)]
  | 12 => show f (b + 250) = v 12 j; rw [f250, s4 12 j (by omega)]
  | k + 13 => show clip (f (b + 250)) (fun i => f (b + 251 + i)) j = v (k + 13) j; rw [f250, c0, s4 (k + 13) j (by omega)]
