/-! the ways of a town -/
theorem fwI_net {v : TV} (ok : TVok v) {inf : Int} (hi : 0 ≤ inf) {N : Int} (hN : N ≤ 8) : Net N (fwI inf (v 7)) := by
  intro a b a0 a1 b0 b1
  have h := (ok.2.2.2.2.2.1 (8 * a + b) (by omega) (by omega)).1
  unfold fwI
  constructor
  · by_cases q : a = b
    · rw [if_pos q]; omega
    · rw [if_neg q]
      by_cases z : v 7 (8 * a + b) = 0
      · rw [if_pos z]; exact hi
      · rw [if_neg z]; exact h
  · rw [if_pos rfl]
theorem fwI_lane {v : TV} (ok : TVok v) {inf : Int} (hi : 20 < inf) {a b : Int} (a0 : 0 ≤ a) (a1 : a < 8) (b0 : 0 ≤ b) (b1 : b < 8) (hab : a ≠ b) : (v 7 (8 * a + b) = 0 ∧ fwI inf (v 7) a b = inf) ∨ (0 < v 7 (8 * a + b) ∧ v 7 (8 * a + b) ≤ 20 ∧ fwI inf (v 7) a b = v 7 (8 * a + b)) := by
  have h := ok.2.2.2.2.2.1 (8 * a + b) (by omega) (by omega)
  unfold fwI
  rw [if_neg hab]
  by_cases z : v 7 (8 * a + b) = 0
  · exact Or.inl ⟨z, by rw [if_pos z]⟩
  · exact Or.inr ⟨by omega, h.2, by rw [if_neg z]⟩
/-- every place is reached from the start -/
def joined (v : TV) : Prop := ∀ a : Int, 0 ≤ a → a < v 0 0 → wayV v 0 a < 1000000
theorem way_len {v : TV} (ok : TVok v) {s a : Int} (s0 : 0 ≤ s) (s1 : s < v 0 0) (a0 : 0 ≤ a) (a1 : a < v 0 0) (h : wayV v s a < 1000000) : wayV v s a ≤ 140 := by
  have hp := ok.1
  have h1 := fw_len (N := v 0 0) (M := fwI 1000000 (v 7)) (inf := 1000000) (L := 20) (fwI_net ok (by omega) hp.2) (by omega) (by omega) (fun a b a0 a1 b0 b1 hab hlt => by
    rcases fwI_lane ok (inf := 1000000) (by omega) a0 (by omega) b0 (by omega) hab with q | q <;> omega) s0 s1 7 a a0 a1 h ?_
  · exact h1
  · have := cnt_lt (p := fun b => decide (wayV v s b < wayV v s a)) (q := fun _ => true) (n := v 0 0) (x := a) (fun _ _ _ _ => rfl) a0 a1 (by simp) rfl
    have := cnt_bd (p := fun _ => true) (n := v 0 0) (by omega)
    show cnt (fun b => decide (wayV v s b < wayV v s a)) (v 0 0) ≤ 7
    omega
theorem way_net {v : TV} (ok : TVok v) : Net (v 0 0) (wayV v) := by
  have hp := ok.1
  exact fw_net (fwI_net ok (by omega) hp.2) (by omega) (Int.le_refl _)
theorem way_tri {v : TV} (ok : TVok v) : Tri (v 0 0) (v 0 0) (wayV v) := by
  have hp := ok.1
  exact fw_tri (fwI_net ok (by omega) hp.2) (by omega) (Int.le_refl _)
theorem way_sym {v : TV} (ok : TVok v) {a b : Int} (a0 : 0 ≤ a) (a1 : a < v 0 0) (b0 : 0 ≤ b) (b1 : b < v 0 0) : wayV v a b = wayV v b a := by
  have hp := ok.1
  have hM := fwI_net ok (inf := 1000000) (by omega) hp.2
  have hs : ∀ a b : Int, 0 ≤ a → a < v 0 0 → 0 ≤ b → b < v 0 0 → fwI 1000000 (v 7) a b = fwI 1000000 (v 7) b a := by
    intro a b a0 a1 b0 b1
    unfold fwI
    have := (ok.2.2.2.2.2.2.1 a b a0 (by omega) b0 (by omega)).1
    by_cases q : a = b
    · rw [if_pos q, if_pos q.symm]
    · rw [if_neg q, if_neg (show ¬ b = a from fun e => q e.symm), this]
  have key : ∀ a b : Int, 0 ≤ a → a < v 0 0 → 0 ≤ b → b < v 0 0 → wayV v b a ≤ wayV v a b := by
    have := fw_max (N := v 0 0) (M := fwI 1000000 (v 7)) (X := fun a b => wayV v b a) (k := v 0 0) (fun a b a0 a1 b0 b1 => by
      have := fw_le (M := fwI 1000000 (v 7)) (k := v 0 0) b a (by omega)
      rw [hs a b a0 a1 b0 b1]
      exact this) (fun a b m a0 a1 b0 b1 m0 m1 => by
      have := way_tri ok b a m b0 b1 a0 a1 m0 m1
      show wayV v b a ≤ wayV v m a + wayV v b m
      omega) (by omega) (Int.le_refl _)
    exact this
  have h1 := key a b a0 a1 b0 b1
  have h2 := key b a b0 b1 a0 a1
  omega
theorem way_bd {v : TV} (ok : TVok v) (hj : joined v) {a b : Int} (a0 : 0 ≤ a) (a1 : a < v 0 0) (b0 : 0 ≤ b) (b1 : b < v 0 0) : 0 ≤ wayV v a b ∧ wayV v a b ≤ 140 := by
  have hp := ok.1
  have h1 := way_len ok (s := 0) (by omega) (by omega) a0 a1 (hj a a0 a1)
  have h2 := way_len ok (s := 0) (by omega) (by omega) b0 b1 (hj b b0 b1)
  have h3 := way_tri ok a b 0 a0 a1 b0 b1 (by omega) (by omega)
  have h4 := way_sym ok a0 a1 (show (0 : Int) ≤ 0 by omega) (by omega)
  exact ⟨(way_net ok a b a0 a1 b0 b1).1, way_len ok a0 a1 b0 b1 (by omega)⟩
theorem way_pos {v : TV} (ok : TVok v) (hj : joined v) {a b : Int} (a0 : 0 ≤ a) (a1 : a < v 0 0) (b0 : 0 ≤ b) (b1 : b < v 0 0) (hab : a ≠ b) : 1 ≤ wayV v a b := by
  have hp := ok.1
  obtain ⟨c, hc, hcb, hlt, he⟩ := fw_last (inf := 1000000) (fwI_net ok (inf := 1000000) (by omega) hp.2) (by omega) a0 a1 b0 b1 hab (by have := way_bd ok hj a0 a1 b0 b1; unfold wayV at this; omega)
  have h1 := (way_net ok a c a0 a1 hc.1 hc.2).1
  rcases fwI_lane ok (inf := 1000000) (by omega) hc.1 (by omega) b0 (by omega) hcb with q | q
  · omega
  · unfold wayV at h1 ⊢; omega
/-- the last lane of a way -/
theorem way_last {v : TV} (ok : TVok v) (hj : joined v) {s a : Int} (s0 : 0 ≤ s) (s1 : s < v 0 0) (a0 : 0 ≤ a) (a1 : a < v 0 0) (hsa : s ≠ a) : ∃ b : Int, (0 ≤ b ∧ b < v 0 0) ∧ b ≠ a ∧ 0 < v 7 (8 * b + a) ∧ wayV v s a = wayV v s b + v 7 (8 * b + a) := by
  have hp := ok.1
  obtain ⟨c, hc, hcb, hlt, he⟩ := fw_last (inf := 1000000) (fwI_net ok (inf := 1000000) (by omega) hp.2) (by omega) s0 s1 a0 a1 hsa (by have := way_bd ok hj s0 s1 a0 a1; unfold wayV at this; omega)
  rcases fwI_lane ok (inf := 1000000) (by omega) hc.1 (by omega) a0 (by omega) hcb with q | q
  · omega
  · exact ⟨c, hc, hcb, q.1, by rw [q.2.2] at he; exact he⟩
theorem way_step {v : TV} (ok : TVok v) {s a b : Int} (s0 : 0 ≤ s) (s1 : s < v 0 0) (a0 : 0 ≤ a) (a1 : a < v 0 0) (b0 : 0 ≤ b) (b1 : b < v 0 0) (h : v 7 (8 * b + a) ≠ 0) : wayV v s a ≤ wayV v s b + v 7 (8 * b + a) := by
  have hp := ok.1
  have h1 := way_tri ok s a b s0 s1 a0 a1 b0 b1
  have h2 : wayV v b a ≤ fwI 1000000 (v 7) b a := fw_le b a (by omega)
  have hba : b ≠ a := fun q => by
    subst q
    exact h (ok.2.2.2.2.2.2.1 b b b0 (by omega) b0 (by omega)).2.1
  rcases fwI_lane ok (inf := 1000000) (by omega) b0 (by omega) a0 (by omega) hba with q | q
  · exact absurd q.1 h
  · omega
/-- from any great number on the ways are the same -/
theorem way_inf {v : TV} (ok : TVok v) (hj : joined v) {inf : Int} (hi : 140 ≤ inf) {a b : Int} (a0 : 0 ≤ a) (a1 : a < v 0 0) (b0 : 0 ≤ b) (b1 : b < v 0 0) : fw (fwI inf (v 7)) (v 0 0) a b = wayV v a b := by
  have hp := ok.1
  refine fw_uniq (fwI_net ok (by omega) hp.2) (by omega) (fun a b a0 a1 b0 b1 => ?_) (way_tri ok) (fun Y hY hT a b a0 a1 b0 b1 => ?_) a0 a1 b0 b1
  · have h1 := way_bd ok hj a0 a1 b0 b1
    have h2 : wayV v a b ≤ fwI 1000000 (v 7) a b := fw_le a b (by omega)
    unfold fwI at h2 ⊢
    by_cases q : a = b
    · rw [if_pos q] at h2 ⊢; exact h2
    · rw [if_neg q] at h2 ⊢
      by_cases z : v 7 (8 * a + b) = 0
      · rw [if_pos z]; omega
      · rw [if_neg z] at h2 ⊢; exact h2
  · -- Y keeps within the lanes of any number that is great
    have h3 := fw_max (N := v 0 0) (M := fwI inf (v 7)) (X := Y) (k := v 0 0) hY hT (by omega) (Int.le_refl _) a b a0 a1 b0 b1
    have key : ∀ k : Nat, ∀ a : Int, 0 ≤ a → a < v 0 0 → ∀ s : Int, 0 ≤ s → s < v 0 0 → wayV v s a ≤ k → fw (fwI inf (v 7)) (v 0 0) s a ≤ wayV v s a := by
      have hn := fwI_net ok (inf := inf) (by omega) hp.2
      intro k
      induction k with
      | zero =>
        intro a a0 a1 s s0 s1 hk
        by_cases hsa : s = a
        · subst hsa
          have := (fw_net hn (show 0 ≤ v 0 0 by omega) (Int.le_refl _) s s s0 s1 s0 s1).2
          have := (way_net ok s s s0 s1 s0 s1).1
          omega
        · have := way_pos ok hj s0 s1 a0 a1 hsa
          omega
      | succ k ih =>
        intro a a0 a1 s s0 s1 hk
        by_cases hsa : s = a
        · subst hsa
          have := (fw_net hn (show 0 ≤ v 0 0 by omega) (Int.le_refl _) s s s0 s1 s0 s1).2
          have := (way_net ok s s s0 s1 s0 s1).1
          omega
        · obtain ⟨c, hc, hca, hl, he⟩ := way_last ok hj s0 s1 a0 a1 hsa
          have h4 := ih c hc.1 hc.2 s s0 s1 (by omega)
          have h5 := fw_tri hn (show 0 ≤ v 0 0 by omega) (Int.le_refl _) s a c s0 s1 a0 a1 hc.1 hc.2
          have h6 := fw_le (M := fwI inf (v 7)) (k := v 0 0) c a (by omega)
          have h7 : fwI inf (v 7) c a = v 7 (8 * c + a) := by
            unfold fwI
            rw [if_neg hca, if_neg (by omega)]
          omega
    have h8 := key 140 b b0 b1 a a0 a1 (way_bd ok hj a0 a1 b0 b1).2
    omega
/-- a lane more -/
def laneM (W : Int → Int → Int) (p q k : Int) : Int → Int → Int := fun a b => if (a = p ∧ b = q) ∨ (a = q ∧ b = p) then min (W a b) k else W a b
theorem wid_fw {N : Int} {W : Int → Int → Int} {p q k : Int} (hW : Net N W) (hT : Tri N N W) (hS : ∀ a b : Int, 0 ≤ a → a < N → 0 ≤ b → b < N → W a b = W b a) (hk : 0 ≤ k) (hp : 0 ≤ p ∧ p < N) (hq : 0 ≤ q ∧ q < N) (hpq : p ≠ q) {a b : Int} (a0 : 0 ≤ a) (a1 : a < N) (b0 : 0 ≤ b) (b1 : b < N) : fw (laneM W p q k) N a b = widV W p q k a b := by
  have hM : Net N (laneM W p q k) := by
    intro a b a0 a1 b0 b1
    have h := hW a b a0 a1 b0 b1
    unfold laneM
    constructor
    · split <;> omega
    · rw [if_neg (by omega)]; exact h.2
  have zp := (hW p p hp.1 hp.2 hp.1 hp.2).2
  have zq := (hW q q hq.1 hq.2 hq.1 hq.2).2
  refine fw_uniq hM (by omega) (fun a b a0 a1 b0 b1 => ?_) (fun a b m a0 a1 b0 b1 m0 m1 => ?_) (fun Y hY hYT a b a0 a1 b0 b1 => ?_) a0 a1 b0 b1
  · unfold laneM widV
    split
    · rename_i c
      rcases c with ⟨c1, c2⟩ | ⟨c1, c2⟩ <;> subst c1 <;> subst c2
      · have := zp; have := zq; omega
      · have := zp; have := zq; omega
    · omega
  · unfold widV
    have t0 := hT a b m a0 a1 b0 b1 m0 m1
    have t1 := hT a p m a0 a1 hp.1 hp.2 m0 m1
    have t2 := hT a q m a0 a1 hq.1 hq.2 m0 m1
    have t3 := hT p b m hp.1 hp.2 b0 b1 m0 m1
    have t4 := hT q b m hq.1 hq.2 b0 b1 m0 m1
    have t5 := hT a b p a0 a1 b0 b1 hp.1 hp.2
    have t6 := hT a b q a0 a1 b0 b1 hq.1 hq.2
    have s1 := hS m p m0 m1 hp.1 hp.2
    have s2 := hS m q m0 m1 hq.1 hq.2
    have n1 := (hW m p m0 m1 hp.1 hp.2).1
    have n2 := (hW m q m0 m1 hq.1 hq.2).1
    omega
  · have y1 := hY a b a0 a1 b0 b1
    have y2 : Y a b ≤ W a b := by
      unfold laneM at y1
      split at y1 <;> omega
    have lq : ∀ c d : Int, 0 ≤ c → c < N → 0 ≤ d → d < N → Y c d ≤ W c d := fun c d c0 c1 d0 d1 => by
      have := hY c d c0 c1 d0 d1
      unfold laneM at this
      split at this <;> omega
    have y3 : Y p q ≤ k := by
      have := hY p q hp.1 hp.2 hq.1 hq.2
      unfold laneM at this
      rw [if_pos (Or.inl ⟨rfl, rfl⟩)] at this
      omega
    have y4 : Y q p ≤ k := by
      have := hY q p hq.1 hq.2 hp.1 hp.2
      unfold laneM at this
      rw [if_pos (Or.inr ⟨rfl, rfl⟩)] at this
      omega
    have u1 := hYT a b p a0 a1 b0 b1 hp.1 hp.2
    have u2 := hYT p b q hp.1 hp.2 b0 b1 hq.1 hq.2
    have u3 := hYT a b q a0 a1 b0 b1 hq.1 hq.2
    have u4 := hYT q b p hq.1 hq.2 b0 b1 hp.1 hp.2
    have l1 := lq a p a0 a1 hp.1 hp.2
    have l2 := lq q b hq.1 hq.2 b0 b1
    have l3 := lq a q a0 a1 hq.1 hq.2
    have l4 := lq p b hp.1 hp.2 b0 b1
    unfold widV
    omega
theorem wid_same {N : Int} {W : Int → Int → Int} {p q k : Int} (hT : Tri N N W) (hS : ∀ a b : Int, 0 ≤ a → a < N → 0 ≤ b → b < N → W a b = W b a) (hp : 0 ≤ p ∧ p < N) (hq : 0 ≤ q ∧ q < N) (hk : W p q ≤ k) {a b : Int} (a0 : 0 ≤ a) (a1 : a < N) (b0 : 0 ≤ b) (b1 : b < N) : widV W p q k a b = W a b := by
  have t1 := hT a b p a0 a1 b0 b1 hp.1 hp.2
  have t2 := hT p b q hp.1 hp.2 b0 b1 hq.1 hq.2
  have t3 := hT a b q a0 a1 b0 b1 hq.1 hq.2
  have t4 := hT q b p hq.1 hq.2 b0 b1 hp.1 hp.2
  have s1 := hS p q hp.1 hp.2 hq.1 hq.2
  unfold widV
  omega
