/-! the rows of cellars, in their order -/
def prS (n : Int) (x : Int × Int) (k : Int) : Int × Int := (remS x.1 (memV x.1 (Int.tdiv x.2 (SV 0 (n - 1 - k)))), Int.tmod x.2 (SV 0 (n - 1 - k)))
def prT (n r k : Int) : Int × Int := fold (prS n) (((2 ^ n.toNat : Nat) : Int) - 1, r) k
def ordV (n r k : Int) : Int := memV (prT n r k).1 (Int.tdiv (prT n r k).2 (SV 0 (n - 1 - k)))
theorem prT_s {n r k : Int} (h : 0 ≤ k) : prT n r (k + 1) = (remS (prT n r k).1 (ordV n r k), Int.tmod (prT n r k).2 (SV 0 (n - 1 - k))) := fold_s h
def prB (n r k : Int) : Bool := decide (0 ≤ ordV n r k) && decide (ordV n r k < n) && decide (0 ≤ (prT n r k).1) && decide ((prT n r k).1 < 256) && decide (0 ≤ (prT n r k).2) && decide ((prT n r k).2 ≤ 23) && decide (1 ≤ SV 0 (n - 1 - k)) && decide (SV 0 (n - 1 - k) ≤ 24) && decide (0 ≤ Int.tdiv (prT n r k).2 (SV 0 (n - 1 - k))) && decide (Int.tdiv (prT n r k).2 (SV 0 (n - 1 - k)) ≤ 23)
theorem pr_tabB : ((List.range 5).all fun n => (List.range 24).all fun r => !decide ((r : Int) < SV 0 n) || (List.range n).all fun k => prB n r k && (List.range n).all fun j => !decide (ordV n r j = ordV n r k) || j == k) = true := by decide +kernel
theorem pr_tab (n : Nat) (hn : n < 5) (r : Nat) (hr : r < 24) (hr2 : (r : Int) < SV 0 n) (k : Nat) (hk : k < n) : prB n r k = true ∧ ∀ j : Nat, j < n → ordV n r j = ordV n r k → j = k := by
  have h := List.all_eq_true.mp pr_tabB n (List.mem_range.mpr hn)
  have h := List.all_eq_true.mp h r (List.mem_range.mpr hr)
  rw [decide_eq_true hr2] at h
  have h := List.all_eq_true.mp h k (List.mem_range.mpr hk)
  obtain ⟨h1, h2⟩ := Bool.and_eq_true _ _ |>.mp h
  refine ⟨h1, fun j hj e => ?_⟩
  have h3 := List.all_eq_true.mp h2 j (List.mem_range.mpr hj)
  rw [decide_eq_true e] at h3
  simpa using h3
theorem pr_surB : ((List.range 5).all fun n => (List.range 24).all fun r => !decide ((r : Int) < SV 0 n) || (List.range n).all fun c => (List.range n).any (fun k => decide (ordV n r k = c))) = true := by decide +kernel
theorem pr_sur (n : Nat) (hn : n < 5) (r : Nat) (hr : r < 24) (hr2 : (r : Int) < SV 0 n) (c : Nat) (hc : c < n) : (List.range n).any (fun k => decide (ordV n r k = c)) = true := by
  have h := List.all_eq_true.mp pr_surB n (List.mem_range.mpr hn)
  have h := List.all_eq_true.mp h r (List.mem_range.mpr hr)
  rw [decide_eq_true hr2] at h
  exact List.all_eq_true.mp h c (List.mem_range.mpr hc)
theorem pr_at {n r k : Int} (n0 : 0 ≤ n) (n4 : n ≤ 4) (r0 : 0 ≤ r) (r1 : r < SV 0 n) (k0 : 0 ≤ k) (k1 : k < n) : ((0 ≤ ordV n r k ∧ ordV n r k < n) ∧ (0 ≤ (prT n r k).1 ∧ (prT n r k).1 < 256) ∧ (0 ≤ (prT n r k).2 ∧ (prT n r k).2 ≤ 23) ∧ (1 ≤ SV 0 (n - 1 - k) ∧ SV 0 (n - 1 - k) ≤ 24) ∧ (0 ≤ Int.tdiv (prT n r k).2 (SV 0 (n - 1 - k)) ∧ Int.tdiv (prT n r k).2 (SV 0 (n - 1 - k)) ≤ 23)) ∧ ∀ j : Int, 0 ≤ j → j < n → ordV n r j = ordV n r k → j = k := by
  have key : ∀ m : Nat, m < 5 → SV 0 m ≤ 24 := by decide +kernel
  have hk := key n.toNat (by omega)
  rw [Int.toNat_of_nonneg n0] at hk
  have h := pr_tab n.toNat (by omega) r.toNat (by omega) (by rw [Int.toNat_of_nonneg n0, Int.toNat_of_nonneg r0]; exact r1) k.toNat (by omega)
  rw [Int.toNat_of_nonneg n0, Int.toNat_of_nonneg r0, Int.toNat_of_nonneg k0] at h
  have hB := h.1
  unfold prB at hB
  simp only [Bool.and_eq_true, decide_eq_true_eq] at hB
  refine ⟨by omega, fun j j0 j1 e => ?_⟩
  have := h.2 j.toNat (by omega) (by rw [Int.toNat_of_nonneg j0]; exact e)
  omega
theorem ord_sur {n r c : Int} (n0 : 0 ≤ n) (n4 : n ≤ 4) (r0 : 0 ≤ r) (r1 : r < SV 0 n) (c0 : 0 ≤ c) (c1 : c < n) : ∃ k, (0 ≤ k ∧ k < n) ∧ ordV n r k = c := by
  have key : ∀ m : Nat, m < 5 → SV 0 m ≤ 24 := by decide +kernel
  have hk := key n.toNat (by omega)
  rw [Int.toNat_of_nonneg n0] at hk
  have h := pr_sur n.toNat (by omega) r.toNat (by omega) (by rw [Int.toNat_of_nonneg n0, Int.toNat_of_nonneg r0]; exact r1) c.toNat (by omega)
  obtain ⟨k, hk1, hk2⟩ := List.any_eq_true.mp h
  rw [Int.toNat_of_nonneg n0, Int.toNat_of_nonneg r0, Int.toNat_of_nonneg c0] at hk2
  have := List.mem_range.mp hk1
  exact ⟨k, by omega, of_decide_eq_true hk2⟩
theorem sv0_bd {n : Int} (n0 : 0 ≤ n) (n4 : n ≤ 4) : n ≤ SV 0 n ∧ 1 ≤ SV 0 n ∧ SV 0 n ≤ 24 := by
  have key : ∀ m : Nat, m < 5 → (m : Int) ≤ SV 0 m ∧ 1 ≤ SV 0 m ∧ SV 0 m ≤ 24 := by decide +kernel
  have hk := key n.toNat (by omega)
  rw [Int.toNat_of_nonneg n0] at hk
  exact hk
/-- the minute in which the k-th cellar of a row is come to -/
def prevG (cel : Int → Int) (n r k : Int) : Int := if k = 0 then 0 else cel (ordV n r (k - 1))
def timG (W : Int → Int → Int) (cel : Int → Int) (n r k : Int) : Int := sm (fun j => W (prevG cel n r j) (cel (ordV n r j))) k
def P_X0_fillRow (g z r : Int) (μ : Mem) : Prop := isG g ∧ isArr z 0 64 ∧ z ≠ g + 2 ∧ (1 ≤ μ g 0 ∧ μ g 0 ≤ 4) ∧ (0 ≤ r ∧ r < SV 0 (μ g 0)) ∧ ∀ c : Int, 0 ≤ c → c < μ g 0 → 0 ≤ μ (g + 1) c ∧ μ (g + 1) c < 8
def Q_X0_fillRow (g z r : Int) (μ μ' : Mem) : Prop := (∀ y : Int, y ≠ g + 2 → μ' y = μ y) ∧ (∀ k : Int, 0 ≤ k → k < μ g 0 → μ' (g + 2) (ordV (μ g 0) r k * 24 + r) = timG (fun a b => μ z (a * 8 + b)) (μ (g + 1)) (μ g 0) r (k + 1)) ∧
  ∀ x : Int, (∀ k : Int, 0 ≤ k → k < μ g 0 → x ≠ ordV (μ g 0) r k * 24 + r) → μ' (g + 2) x = μ (g + 2) x
def S_X0_fillRow : S0t := fun as μ Q => match as with
  | [(2, x0), (2, x1), (0, x2)] => P_X0_fillRow x0 x1 x2 μ ∧ ∀ (μ' : Mem) , Q_X0_fillRow x0 x1 x2 μ μ'  → Q μ' none
  | _ => False
theorem mono_X0_fillRow : Mono S_X0_fillRow := by
  intro as μ Q Q' h hS
  unfold S_X0_fillRow at hS ⊢
  split at hS
  · exact ⟨hS.1, fun μ' q => h _ _ (hS.2 _ q)⟩
  · exact hS.elim
def iX0_fillRow : Inf := (kX0_fillRow, fTX0, pTX0, cTX0, lTX0, sTX0, [(97, 1, 2, 0, S_X0_memberOf)])
theorem ok_X0_fillRow : infOK iX0_fillRow mX0_fillRow RX0 2 44 := ⟨kkX0_fillRow, fTX0_ok, pTX0_ok _, cTX0_ok, lTX0_ok, sTX0_ok, c_cons ⟨mX0_memberOf, 1, 21, ct_X0_memberOf, mmX0_memberOf, stX0_memberOf, lkX0_97, ⟨by decide, by decide⟩, mono_X0_memberOf⟩ (c_nil)⟩
theorem mt_X0_fillRow : mtOK [(91, 1)] RX0 2 44 := mt_cons ⟨MI0, by decide, by decide, ML_X0_91, MS1, MC1⟩ (mt_nil)
abbrev V_X0_fillRow (R : Mem → Option AV → Prop) (pc : Nat) (lc : List (Nat × AV)) (μ : Mem) : Prop := VM mX0_fillRow RX0 2 44 R pc lc [] μ
set_option maxRecDepth 20000 in
theorem vc_X0_fillRow_0 {R : Mem → Option AV → Prop} {r g z : Int} {μ : Mem} (hg : isG g) (hz : isArr z 0 64) (H : V_X0_fillRow R 26 [(0, kR g), (1, kR z), (2, kI r), (3, kI ((bshl 1 (μ g 0)) - 1)), (4, kI r), (5, kI 0), (6, kI 0), (7, kI ((μ g 0) - 1))] μ) : V_X0_fillRow R 0 [(0, kR g), (1, kR z), (2, kI r)] μ := by
  refine vm_step2 mt_X0_fillRow ok_X0_fillRow [(26, [0, 1, 2, 3, 4, 5, 6, 7]), (95, [0, 1, 2, 3, 4, 6, 7, 9])] 1000 ?_
  show isC g 0 ∧ isC g 0 ∧ V_X0_fillRow R 26 [(0, kR g), (1, kR z), (2, kI r), (3, kI ((bshl 1 (μ g 0)) - 1)), (4, kI r), (5, kI 0), (6, kI 0), (7, kI ((μ g 0) - 1))] μ
  exact ⟨isG_C hg, ⟨isG_C hg, H⟩⟩
set_option maxRecDepth 20000 in
theorem vc_X0_fillRow_26 {R : Mem → Option AV → Prop} {r ah rest fm mi i g z : Int} {μ : Mem} (hg : isG g) (hz : isArr z 0 64) (H : r32 i ∧ ((i < 0) → R μ none) ∧ (¬ (i < 0) → (0 ≤ i ∧ i < 5) ∧ r32 (SV 0 i) ∧ (r32 rest ∧ r32 (max (SV 0 i) 1) ∧ (max (SV 0 i) 1) ≠ 0) ∧ P_X0_memberOf ah (Int.tdiv rest (max (SV 0 i) 1)) μ ∧ (r32 rest ∧ r32 (max (SV 0 i) 1) ∧ (max (SV 0 i) 1) ≠ 0) ∧ (0 ≤ (F_X0_memberOf ah (Int.tdiv rest (max (SV 0 i) 1)) μ) ∧ (F_X0_memberOf ah (Int.tdiv rest (max (SV 0 i) 1)) μ) < 4) ∧ (0 ≤ ((fm * 8) + (μ (g + 1) (F_X0_memberOf ah (Int.tdiv rest (max (SV 0 i) 1)) μ))) ∧ ((fm * 8) + (μ (g + 1) (F_X0_memberOf ah (Int.tdiv rest (max (SV 0 i) 1)) μ))) < 64) ∧ (0 ≤ (((F_X0_memberOf ah (Int.tdiv rest (max (SV 0 i) 1)) μ) * 24) + r) ∧ (((F_X0_memberOf ah (Int.tdiv rest (max (SV 0 i) 1)) μ) * 24) + r) < 96) ∧ V_X0_fillRow R 95 [(0, kR g), (1, kR z), (2, kI r), (3, kI ah), (4, kI (Int.tmod rest (max (SV 0 i) 1))), (6, kI (mi + (μ z ((fm * 8) + (μ (g + 1) (F_X0_memberOf ah (Int.tdiv rest (max (SV 0 i) 1)) μ)))))), (7, kI i), (9, kI (F_X0_memberOf ah (Int.tdiv rest (max (SV 0 i) 1)) μ))] (updm μ (g + 2) (((F_X0_memberOf ah (Int.tdiv rest (max (SV 0 i) 1)) μ) * 24) + r) (mi + (μ z ((fm * 8) + (μ (g + 1) (F_X0_memberOf ah (Int.tdiv rest (max (SV 0 i) 1)) μ)))))))) : V_X0_fillRow R 26 [(0, kR g), (1, kR z), (2, kI r), (3, kI ah), (4, kI rest), (5, kI fm), (6, kI mi), (7, kI i)] μ := by
  refine vm_step2 mt_X0_fillRow ok_X0_fillRow [(26, [0, 1, 2, 3, 4, 5, 6, 7]), (95, [0, 1, 2, 3, 4, 6, 7, 9])] 1000 ?_
  show r32 i ∧ ((i < 0) → R μ none) ∧ (¬ (i < 0) → atS 0 0 i ∧ (r32 (SV 0 i) ∧ r32 (1 : Int)) ∧ (r32 rest ∧ r32 (max (SV 0 i) 1) ∧ (max (SV 0 i) 1) ≠ 0) ∧ P_X0_memberOf ah (Int.tdiv rest (max (SV 0 i) 1)) μ ∧ (r32 rest ∧ r32 (max (SV 0 i) 1) ∧ (max (SV 0 i) 1) ≠ 0) ∧ isC g 0 ∧ inA (g + 1) 0 (F_X0_memberOf ah (Int.tdiv rest (max (SV 0 i) 1)) μ) ∧ inA z 0 ((fm * 8) + (μ (g + 1) (F_X0_memberOf ah (Int.tdiv rest (max (SV 0 i) 1)) μ))) ∧ isC g 0 ∧ inA (g + 2) 0 (((F_X0_memberOf ah (Int.tdiv rest (max (SV 0 i) 1)) μ) * 24) + r) ∧ V_X0_fillRow R 95 [(0, kR g), (1, kR z), (2, kI r), (3, kI ah), (4, kI (Int.tmod rest (max (SV 0 i) 1))), (6, kI (mi + (μ z ((fm * 8) + (μ (g + 1) (F_X0_memberOf ah (Int.tdiv rest (max (SV 0 i) 1)) μ)))))), (7, kI i), (9, kI (F_X0_memberOf ah (Int.tdiv rest (max (SV 0 i) 1)) μ))] (updm μ (g + 2) (((F_X0_memberOf ah (Int.tdiv rest (max (SV 0 i) 1)) μ) * 24) + r) (mi + (μ z ((fm * 8) + (μ (g + 1) (F_X0_memberOf ah (Int.tdiv rest (max (SV 0 i) 1)) μ)))))))
  exact ⟨H.1, fun hc1 => (H.2.1 hc1), fun hc1 => ⟨⟨⟨by omega, by omega⟩, rfl, (H.2.2 hc1).1.1, (H.2.2 hc1).1.2⟩, ⟨⟨(H.2.2 hc1).2.1, by unfold r32; omega⟩, ⟨(H.2.2 hc1).2.2.1, ⟨(H.2.2 hc1).2.2.2.1, ⟨(H.2.2 hc1).2.2.2.2.1, ⟨isG_C hg, ⟨isArr.in (Gm_cellar hg) (H.2.2 hc1).2.2.2.2.2.1.1 (H.2.2 hc1).2.2.2.2.2.1.2, ⟨isArr.in hz (H.2.2 hc1).2.2.2.2.2.2.1.1 (H.2.2 hc1).2.2.2.2.2.2.1.2, ⟨isG_C hg, ⟨isArr.in (Gm_found hg) (H.2.2 hc1).2.2.2.2.2.2.2.1.1 (H.2.2 hc1).2.2.2.2.2.2.2.1.2, (H.2.2 hc1).2.2.2.2.2.2.2.2⟩⟩⟩⟩⟩⟩⟩⟩⟩⟩⟩
set_option maxRecDepth 20000 in
theorem vc_X0_fillRow_95 {R : Mem → Option AV → Prop} {r ah rest mi i c g z : Int} {μ : Mem} (hg : isG g) (hz : isArr z 0 64) (H : (0 ≤ c ∧ c < 4) ∧ V_X0_fillRow R 26 [(0, kR g), (1, kR z), (2, kI r), (3, kI (band ah (bxor (bshl 1 c) (-1)))), (4, kI rest), (5, kI (μ (g + 1) c)), (6, kI mi), (7, kI (i + (-1)))] μ) : V_X0_fillRow R 95 [(0, kR g), (1, kR z), (2, kI r), (3, kI ah), (4, kI rest), (6, kI mi), (7, kI i), (9, kI c)] μ := by
  refine vm_step2 mt_X0_fillRow ok_X0_fillRow [(26, [0, 1, 2, 3, 4, 5, 6, 7]), (95, [0, 1, 2, 3, 4, 6, 7, 9])] 1000 ?_
  show isC g 0 ∧ inA (g + 1) 0 c ∧ V_X0_fillRow R 26 [(0, kR g), (1, kR z), (2, kI r), (3, kI (band ah (bxor (bshl 1 c) (-1)))), (4, kI rest), (5, kI (μ (g + 1) c)), (6, kI mi), (7, kI (i + (-1)))] μ
  exact ⟨isG_C hg, ⟨isArr.in (Gm_cellar hg) H.1.1 H.1.2, H.2⟩⟩
theorem body_X0_fillRow {g z r : Int} {μ : Mem} {R : Mem → Option AV → Prop} (h : P_X0_fillRow g z r μ) (hR : ∀ μ' : Mem, Q_X0_fillRow g z r μ μ' → R μ' none) : V_X0_fillRow R 0 [(0, kR g), (1, kR z), (2, kI r)] μ := by
  obtain ⟨hg, hz, hzg, hn, hr, hc⟩ := h
  have hg2 := isG_two hg
  unfold Q_X0_fillRow at hR
  generalize hne : μ g 0 = n at *
  have h24 := sv0_bd (show 0 ≤ n by omega) hn.2
  have key : ∀ i : Int, -1 ≤ i → i ≤ n - 1 → ∀ m : Mem, (∀ y : Int, y ≠ g + 2 → m y = μ y) → (∀ k : Int, 0 ≤ k → k < n - 1 - i → m (g + 2) (ordV n r k * 24 + r) = timG (fun a b => μ z (a * 8 + b)) (μ (g + 1)) n r (k + 1)) → (∀ x : Int, (∀ k : Int, 0 ≤ k → k < n → x ≠ ordV n r k * 24 + r) → m (g + 2) x = μ (g + 2) x) →
      V_X0_fillRow R 26 [(0, kR g), (1, kR z), (2, kI r), (3, kI (prT n r (n - 1 - i)).1), (4, kI (prT n r (n - 1 - i)).2), (5, kI (prevG (μ (g + 1)) n r (n - 1 - i))), (6, kI (timG (fun a b => μ z (a * 8 + b)) (μ (g + 1)) n r (n - 1 - i))), (7, kI i)] m := by
    refine dn_ind (P := fun i => ∀ m : Mem, (∀ y : Int, y ≠ g + 2 → m y = μ y) → (∀ k : Int, 0 ≤ k → k < n - 1 - i → m (g + 2) (ordV n r k * 24 + r) = timG (fun a b => μ z (a * 8 + b)) (μ (g + 1)) n r (k + 1)) → (∀ x : Int, (∀ k : Int, 0 ≤ k → k < n → x ≠ ordV n r k * 24 + r) → m (g + 2) x = μ (g + 2) x) →
      V_X0_fillRow R 26 [(0, kR g), (1, kR z), (2, kI r), (3, kI (prT n r (n - 1 - i)).1), (4, kI (prT n r (n - 1 - i)).2), (5, kI (prevG (μ (g + 1)) n r (n - 1 - i))), (6, kI (timG (fun a b => μ z (a * 8 + b)) (μ (g + 1)) n r (n - 1 - i))), (7, kI i)] m) ?_ ?_
    · intro i i0 i1 ih m hf hk hx
      generalize hkk : n - 1 - i = k at *
      have e1 : n - 1 - (i - 1) = k + 1 := by omega
      have ei : n - 1 - k = i := by omega
      rw [e1] at ih
      have pa := pr_at (show 0 ≤ n by omega) hn.2 hr.1 hr.2 (show 0 ≤ k by omega) (show k < n by omega)
      rw [ei] at pa
      obtain ⟨⟨p1, p2, p3, p4, p5⟩, pinj⟩ := pa
      have ps := prT_s (n := n) (r := r) (show 0 ≤ k by omega)
      rw [ei] at ps
      have eo : memV (prT n r k).1 (Int.tdiv (prT n r k).2 (SV 0 i)) = ordV n r k := by unfold ordV; rw [ei]
      have eg1 : m (g + 1) = μ (g + 1) := hf _ (by omega)
      have ez : m z = μ z := hf _ hzg
      have hpv : 0 ≤ prevG (μ (g + 1)) n r k ∧ prevG (μ (g + 1)) n r k < 8 := by
        unfold prevG
        split
        · omega
        · have pb := pr_at (show 0 ≤ n by omega) hn.2 hr.1 hr.2 (show 0 ≤ k - 1 by omega) (show k - 1 < n by omega)
          exact hc _ pb.1.1.1 pb.1.1.2
      have hco := hc _ p1.1 p1.2
      have em : max (SV 0 i) 1 = SV 0 i := by omega
      refine vc_X0_fillRow_26 hg hz ?_
      rw [em]
      unfold F_X0_memberOf
      rw [eo, eg1, ez]
      refine ⟨rr (by omega), fun c => absurd c (by omega), fun _ => ⟨by omega, rr (by omega), ⟨rr (by omega), rr (by omega), by omega⟩, ⟨p2, rr (by omega)⟩, ⟨rr (by omega), rr (by omega), by omega⟩, by omega, by omega, by omega, vc_X0_fillRow_95 hg hz ?_⟩⟩
      have eg2 : updm m (g + 2) (ordV n r k * 24 + r) (timG (fun a b => μ z (a * 8 + b)) (μ (g + 1)) n r k + μ z (prevG (μ (g + 1)) n r k * 8 + μ (g + 1) (ordV n r k))) (g + 1) = μ (g + 1) := by rw [ru_ne (by omega)]; exact eg1
      have et : timG (fun a b => μ z (a * 8 + b)) (μ (g + 1)) n r (k + 1) = timG (fun a b => μ z (a * 8 + b)) (μ (g + 1)) n r k + μ z (prevG (μ (g + 1)) n r k * 8 + μ (g + 1) (ordV n r k)) := sm_s (show 0 ≤ k by omega)
      rw [eg2, b_rem p2.1 (by omega) p1.1 (by omega), ← et]
      rw [ps] at ih
      have epv : prevG (μ (g + 1)) n r (k + 1) = μ (g + 1) (ordV n r k) := by
        unfold prevG
        rw [if_neg (by omega)]
        have : k + 1 - 1 = k := by omega
        rw [this]
      rw [epv] at ih
      refine ⟨by omega, ih _ (fun y hy => by rw [ru_ne hy]; exact hf y hy) (fun k' x0 x1 => ?_) (fun x hxx => ?_)⟩
      · rw [ru_eq]
        by_cases e : k' = k
        · rw [e, r1_eq]
        · rw [r1_ne (fun q => e (pinj k' x0 (by omega) (by omega)))]; exact hk k' x0 (by omega)
      · rw [ru_eq, r1_ne (hxx k (by omega) (by omega))]; exact hx x hxx
    · intro m hf hk hx
      exact vc_X0_fillRow_26 hg hz ⟨rr (by omega), fun _ => hR m ⟨hf, fun k k0 k1 => hk k k0 (by omega), hx⟩, fun c => absurd (show (-1 : Int) < 0 by omega) c⟩
  have := key (n - 1) (by omega) (Int.le_refl _) μ (fun _ _ => rfl) (fun k k0 k1 => absurd k0 (by omega)) (fun _ _ => rfl)
  have e0 : n - 1 - (n - 1) = 0 := by omega
  rw [e0] at this
  refine vc_X0_fillRow_0 hg hz ?_
  rw [hne, b_shl (show 0 ≤ n by omega) (by omega)]
  exact this
theorem ct_X0_fillRow : Ct mX0_fillRow 2 44 0 0 (nrmS S_X0_fillRow) := by
  refine ct_vm (own := RX0) (by decide +kernel) rfl ?_ ?_
  · intro as μ Q hS
    unfold S_X0_fillRow at hS
    split at hS
    · exact Nat.le_of_ble_eq_true rfl
    · exact hS.elim
  · intro as μ R hS
    unfold S_X0_fillRow at hS
    split at hS
    · exact body_X0_fillRow hS.1 hS.2
    · exact hS.elim
/-- the m-th place of a set -/
def mthV (s m : Int) : Int := frst (fun a => hasB s a && decide (cntB s a = m)) 8
theorem mth_at {s a : Int} (a0 : 0 ≤ a) (a1 : a < 8) (h : hasB s a = true) : mthV s (cntB s a) = a := by
  refine frst_at a0 a1 (by rw [h, decide_eq_true rfl]; rfl) (fun i i0 i1 => ?_)
  cases hi : hasB s i
  · rfl
  · have h1 := cntB_s (s := s) i0
    rw [if_pos hi] at h1
    have h2 : cntB s (i + 1) ≤ cntB s a := by
      have : ∀ j : Int, i + 1 ≤ j → j ≤ a → cntB s (i + 1) ≤ cntB s j := by
        intro j j0 j1
        have := nat_ind (P := fun d => cntB s (i + 1) ≤ cntB s (i + 1 + d)) (by rw [Int.add_zero]; exact Int.le_refl _) (fun d d0 hd => by
          have h3 := cntB_s (s := s) (show 0 ≤ i + 1 + d by omega)
          rw [← Int.add_assoc, h3]
          split <;> omega) (j - (i + 1)) (by omega)
        have e : i + 1 + (j - (i + 1)) = j := by omega
        rw [e] at this
        exact this
      exact this a (by omega) (Int.le_refl _)
    rw [decide_eq_false (by omega)]
    rfl
def FoundA (F W : Int → Int → Int) (cel : Int → Int) (n : Int) : Prop := ∀ r k : Int, 0 ≤ r → r < SV 0 n → 0 ≤ k → k < n → F (ordV n r k) r = timG W cel n r (k + 1)
/-- what a game keeps from call to call -/
def GInv (μ : Mem) (g : Int) : Prop := ChR μ g ∧ (∀ i : Int, 0 ≤ i → i < 96 → r32 (μ (g + 3) i)) ∧ (0 ≤ μ g 5 ∧ μ g 5 ≤ 4) ∧ (1 ≤ μ g 5 → ∃ F : Int → Int → Int, (∀ c r : Int, 0 ≤ c → c < 4 → 0 ≤ r → r < 24 → F c r = μ (g + 3) (c * 24 + r)) ∧ KerR μ g F (μ g 5) (SV 0 (μ g 5)))
theorem KerR_frame {μ m : Mem} {g n N : Int} {F : Int → Int → Int} (h : KerR μ g F n N) (h4 : m (g + 4) = μ (g + 4)) (h5 : m (g + 5) = μ (g + 5)) (h9 : m (g + 9) = μ (g + 9)) (h10 : m (g + 10) = μ (g + 10)) (h14 : m g 14 = μ g 14) (h15 : m g 15 = μ g 15) (h16 : m g 16 = μ g 16) : KerR m g F n N := by
  unfold KerR
  rw [h4, h5, h9, h10, h14, h15, h16]
  exact h
theorem KerR_size {μ : Mem} {g n N : Int} {F : Int → Int → Int} (h : KerR μ g F n N) (hn : 1 ≤ n) : 0 ≤ μ g 14 ∧ μ g 14 ≤ n := by
  rcases h with h | h
  · rw [h.1]; omega
  · have := h.1.1; omega
def P_X0_settle (g z s : Int) (μ : Mem) : Prop := isG g ∧ isArr z 0 64 ∧ (z < g ∨ g + 10 < z) ∧ (0 ≤ s ∧ s < 256) ∧ (∀ a b : Int, 0 ≤ a → a < 8 → (a = 0 ∨ hasB s a = true) → 0 ≤ b → b < 8 → hasB s b = true → 0 ≤ μ z (a * 8 + b) ∧ μ z (a * 8 + b) ≤ 140) ∧ GInv μ g
def Q_X0_settle (g z s : Int) (μ μ' : Mem) (r : Int) : Prop := (∀ y : Int, (y < g ∨ g + 10 < y) → μ' y = μ y) ∧ GInv μ' g ∧ (¬ (1 ≤ popc s ∧ popc s ≤ 4) → r = 0) ∧
  (1 ≤ popc s ∧ popc s ≤ 4 → r = (if 0 < μ' g 14 then 1 else 0) ∧ μ' g 0 = popc s ∧ (∀ m : Int, 0 ≤ m → m < popc s → μ' (g + 1) m = mthV s m) ∧ ∃ F : Int → Int → Int, KerR μ' g F (popc s) (SV 0 (popc s)) ∧ FoundA F (fun a b => μ z (a * 8 + b)) (mthV s) (popc s))
theorem timG_congr {W : Int → Int → Int} {cel cel' : Int → Int} {n r k : Int} (n0 : 0 ≤ n) (n4 : n ≤ 4) (r0 : 0 ≤ r) (r1 : r < SV 0 n) (kn : k ≤ n) (h : ∀ m, 0 ≤ m → m < n → cel m = cel' m) : timG W cel n r k = timG W cel' n r k := by
  refine sm_congr fun j j0 j1 => ?_
  have p1 := pr_at n0 n4 r0 r1 j0 (show j < n by omega)
  unfold prevG
  rw [h _ p1.1.1.1 p1.1.1.2]
  by_cases c : j = 0
  · rw [if_pos c, if_pos c]
  · have p2 := pr_at n0 n4 r0 r1 (show 0 ≤ j - 1 by omega) (show j - 1 < n by omega)
    rw [if_neg c, if_neg c, h _ p2.1.1.1 p2.1.1.2]
theorem mth_in {s m : Int} (m0 : 0 ≤ m) (m1 : m < popc s) : (0 ≤ mthV s m ∧ mthV s m < 8) ∧ hasB s (mthV s m) = true := by
  rcases frst_cases (fun a => hasB s a && decide (cntB s a = m)) (show (0 : Int) ≤ 8 by omega) with ⟨e, h⟩ | ⟨k, k0, k1, e, h1, _⟩
  · exfalso
    have : ∀ a : Int, 0 ≤ a → a ≤ 8 → cntB s a ≤ m := by
      intro a a0
      refine nat_ind (P := fun a => a ≤ 8 → cntB s a ≤ m) (fun _ => m0) (fun i i0 ih i8 => ?_) a a0
      have h1 := ih (by omega)
      have h2 := cntB_s (s := s) i0
      have h3 := h i i0 (by omega)
      cases hi : hasB s i
      · rw [hi, if_neg (by simp)] at h2; omega
      · rw [hi, Bool.true_and] at h3
        have := of_decide_eq_false h3
        rw [hi, if_pos rfl] at h2
        omega
    have := this 8 (by omega) (by omega)
    have e : popc s = cntB s 8 := rfl
    omega
  · unfold mthV
    rw [e]
    exact ⟨⟨k0, k1⟩, (Bool.and_eq_true _ _ |>.mp h1).1⟩
def S_X0_settle : S0t := fun as μ Q => match as with
  | [(2, x0), (2, x1), (0, x2)] => P_X0_settle x0 x1 x2 μ ∧ ∀ (μ' : Mem) (r : Int), Q_X0_settle x0 x1 x2 μ μ' r → Q μ' (some (kI r))
  | _ => False
theorem mono_X0_settle : Mono S_X0_settle := by
  intro as μ Q Q' h hS
  unfold S_X0_settle at hS ⊢
  split at hS
  · exact ⟨hS.1, fun μ' r q => h _ _ (hS.2 _ _ q)⟩
  · exact hS.elim
def iX0_settle : Inf := (kX0_settle, fTX0, pTX0, cTX0, lTX0, sTX0, [(43, 1, 1, 0, S_J6_bitCount_0f7a4), (63, 1, 2, 0, S_J7_fill_53178), (59, 1, 2, 0, S_X10_isIn), (72, 0, 0, 0, S_X0_isSettled), (76, 2, 0, 0, S_copy), (69, 0, 2, 0, S_X0_fillRow), (85, 0, 0, 0, S_X0_search)])
theorem ok_X0_settle : infOK iX0_settle mX0_settle RX0 3 83 := ⟨kkX0_settle, fTX0_ok, pTX0_ok _, cTX0_ok, lTX0_ok, sTX0_ok, c_cons ⟨mJ6_bitCount_0f7a4, 0, 0, ct_J6_bitCount_0f7a4, mmJ6_bitCount_0f7a4, stJ6_bitCount_0f7a4, lkX0_43, ⟨by decide, by decide⟩, mono_J6_bitCount_0f7a4⟩ (c_cons ⟨mJ7_fill_53178, 0, 0, ct_J7_fill_53178, mmJ7_fill_53178, stJ7_fill_53178, lkX0_63, ⟨by decide, by decide⟩, mono_J7_fill_53178⟩ (c_cons ⟨mX10_isIn, 0, 0, ct_X10_isIn, mmX10_isIn, stX10_isIn, lkX0_59, ⟨by decide, by decide⟩, mono_X10_isIn⟩ (c_cons ⟨mX0_isSettled, 0, 0, ct_X0_isSettled, mmX0_isSettled, vvX0_isSettled, lkX0_72, ⟨by decide, by decide⟩, ⟨_, _, rfl⟩, by decide, mono_X0_isSettled⟩ (c_cons ⟨by decide, AC_X0_76, AC1, AC2, AC3, by decide, by decide⟩ (c_cons ⟨mX0_fillRow, 2, 44, ct_X0_fillRow, mmX0_fillRow, vvX0_fillRow, lkX0_69, ⟨by decide, by decide⟩, ⟨_, _, rfl⟩, by decide, mono_X0_fillRow⟩ (c_cons ⟨mX0_search, 2, 58, ct_X0_search, mmX0_search, vvX0_search, lkX0_85, ⟨by decide, by decide⟩, ⟨_, _, rfl⟩, by decide, mono_X0_search⟩ (c_nil)))))))⟩
theorem mt_X0_settle : mtOK [] RX0 3 83 := mt_nil
abbrev V_X0_settle (R : Mem → Option AV → Prop) (pc : Nat) (lc : List (Nat × AV)) (μ : Mem) : Prop := VM mX0_settle RX0 3 83 R pc lc [] μ
set_option maxRecDepth 20000 in
theorem vc_X0_settle_0 {R : Mem → Option AV → Prop} {s g z : Int} {μ : Mem} (hg : isG g) (hz : isArr z 0 64) (H : P_J6_bitCount_0f7a4 s μ ∧ r32 (F_J6_bitCount_0f7a4 s μ) ∧ (((F_J6_bitCount_0f7a4 s μ) < (1 : Int)) → R μ (some (kI 0))) ∧ (¬ ((F_J6_bitCount_0f7a4 s μ) < (1 : Int)) → r32 (F_J6_bitCount_0f7a4 s μ) ∧ (((F_J6_bitCount_0f7a4 s μ) ≤ (4 : Int)) → V_X0_settle R 22 [(0, kR g), (1, kR z), (2, kI s), (3, kI (F_J6_bitCount_0f7a4 s μ))] (updm μ g 0 (F_J6_bitCount_0f7a4 s μ))) ∧ (¬ ((F_J6_bitCount_0f7a4 s μ) ≤ (4 : Int)) → R μ (some (kI 0))))) : V_X0_settle R 0 [(0, kR g), (1, kR z), (2, kI s)] μ := by
  refine vm_step2 mt_X0_settle ok_X0_settle [(22, [0, 1, 2, 3]), (31, [0, 1, 2, 3]), (37, [0, 1, 2, 3, 4, 5]), (68, [0, 1, 2, 3, 4, 5]), (85, [0, 1]), (88, [0, 1, 5]), (104, [0, 1, 5]), (135, [0]), (143, [0]), (147, [0])] 1000 ?_
  show P_J6_bitCount_0f7a4 s μ ∧ (r32 (F_J6_bitCount_0f7a4 s μ) ∧ r32 (1 : Int)) ∧ (((F_J6_bitCount_0f7a4 s μ) < (1 : Int)) → (0 ≤ (0 : Int) ∧ (0 : Int) ≤ 1) ∧ R μ (some (kI 0))) ∧ (¬ ((F_J6_bitCount_0f7a4 s μ) < (1 : Int)) → (r32 (F_J6_bitCount_0f7a4 s μ) ∧ r32 (4 : Int)) ∧ (((F_J6_bitCount_0f7a4 s μ) ≤ (4 : Int)) → isC g 0 ∧ 0 = 0 ∧ True ∧ V_X0_settle R 22 [(0, kR g), (1, kR z), (2, kI s), (3, kI (F_J6_bitCount_0f7a4 s μ))] (updm μ g 0 (F_J6_bitCount_0f7a4 s μ))) ∧ (¬ ((F_J6_bitCount_0f7a4 s μ) ≤ (4 : Int)) → (0 ≤ (0 : Int) ∧ (0 : Int) ≤ 1) ∧ R μ (some (kI 0))))
  exact ⟨H.1, ⟨⟨H.2.1, by unfold r32; omega⟩, fun hc2 => ⟨⟨by omega, by omega⟩, (H.2.2.1 hc2)⟩, fun hc2 => ⟨⟨(H.2.2.2 hc2).1, by unfold r32; omega⟩, fun hc1 => ⟨isG_C hg, rfl, trivial, ((H.2.2.2 hc2).2.1 hc1)⟩, fun hc1 => ⟨⟨by omega, by omega⟩, ((H.2.2.2 hc2).2.2 hc1)⟩⟩⟩⟩
set_option maxRecDepth 20000 in
theorem vc_X0_settle_22 {R : Mem → Option AV → Prop} {s n g z : Int} {μ : Mem} (hg : isG g) (hz : isArr z 0 64) (H : (0 ≤ n ∧ n < 5) ∧ V_X0_settle R 31 [(0, kR g), (1, kR z), (2, kI s), (3, kI n)] (updm μ g 1 (SV 0 n))) : V_X0_settle R 22 [(0, kR g), (1, kR z), (2, kI s), (3, kI n)] μ := by
  refine vm_step2 mt_X0_settle ok_X0_settle [(22, [0, 1, 2, 3]), (31, [0, 1, 2, 3]), (37, [0, 1, 2, 3, 4, 5]), (68, [0, 1, 2, 3, 4, 5]), (85, [0, 1]), (88, [0, 1, 5]), (104, [0, 1, 5]), (135, [0]), (143, [0]), (147, [0])] 1000 ?_
  show atS 0 0 n ∧ isC g 0 ∧ 0 = 0 ∧ True ∧ V_X0_settle R 31 [(0, kR g), (1, kR z), (2, kI s), (3, kI n)] (updm μ g 1 (SV 0 n))
  exact ⟨⟨⟨by omega, by omega⟩, rfl, H.1.1, H.1.2⟩, ⟨isG_C hg, rfl, trivial, H.2⟩⟩
set_option maxRecDepth 20000 in
theorem vc_X0_settle_31 {R : Mem → Option AV → Prop} {s n g z : Int} {μ : Mem} (hg : isG g) (hz : isArr z 0 64) (H : V_X0_settle R 37 [(0, kR g), (1, kR z), (2, kI s), (3, kI n), (4, kI 0), (5, kI 0)] μ) : V_X0_settle R 31 [(0, kR g), (1, kR z), (2, kI s), (3, kI n)] μ := by
  refine vm_step2 mt_X0_settle ok_X0_settle [(22, [0, 1, 2, 3]), (31, [0, 1, 2, 3]), (37, [0, 1, 2, 3, 4, 5]), (68, [0, 1, 2, 3, 4, 5]), (85, [0, 1]), (88, [0, 1, 5]), (104, [0, 1, 5]), (135, [0]), (143, [0]), (147, [0])] 1000 ?_
  show V_X0_settle R 37 [(0, kR g), (1, kR z), (2, kI s), (3, kI n), (4, kI 0), (5, kI 0)] μ
  exact H
set_option maxRecDepth 20000 in
theorem vc_X0_settle_37 {R : Mem → Option AV → Prop} {s n m a g z : Int} {μ : Mem} (hg : isG g) (hz : isArr z 0 64) (H : r32 a ∧ (((8 : Int) ≤ a) → P_J7_fill_53178 (g + 2) 0 μ ∧ V_X0_settle R 85 [(0, kR g), (1, kR z)] (M_J7_fill_53178 (g + 2) 0 μ)) ∧ (¬ ((8 : Int) ≤ a) → r32 m ∧ r32 n ∧ ((n ≤ m) → P_J7_fill_53178 (g + 2) 0 μ ∧ V_X0_settle R 85 [(0, kR g), (1, kR z)] (M_J7_fill_53178 (g + 2) 0 μ)) ∧ (¬ (n ≤ m) → P_X10_isIn s a μ ∧ r32 (F_X10_isIn s a μ) ∧ (((F_X10_isIn s a μ) = 0) → V_X0_settle R 37 [(0, kR g), (1, kR z), (2, kI s), (3, kI n), (4, kI m), (5, kI (a + 1))] μ) ∧ (¬ ((F_X10_isIn s a μ) = 0) → (0 ≤ m ∧ m < 4) ∧ V_X0_settle R 68 [(0, kR g), (1, kR z), (2, kI s), (3, kI n), (4, kI m), (5, kI a)] (updm μ (g + 1) m a))))) : V_X0_settle R 37 [(0, kR g), (1, kR z), (2, kI s), (3, kI n), (4, kI m), (5, kI a)] μ := by
  refine vm_step2 mt_X0_settle ok_X0_settle [(22, [0, 1, 2, 3]), (31, [0, 1, 2, 3]), (37, [0, 1, 2, 3, 4, 5]), (68, [0, 1, 2, 3, 4, 5]), (85, [0, 1]), (88, [0, 1, 5]), (104, [0, 1, 5]), (135, [0]), (143, [0]), (147, [0])] 1000 ?_
  show (r32 a ∧ r32 (8 : Int)) ∧ (((8 : Int) ≤ a) → isC g 0 ∧ P_J7_fill_53178 (g + 2) 0 μ ∧ V_X0_settle R 85 [(0, kR g), (1, kR z)] (M_J7_fill_53178 (g + 2) 0 μ)) ∧ (¬ ((8 : Int) ≤ a) → (r32 m ∧ r32 n) ∧ ((n ≤ m) → isC g 0 ∧ P_J7_fill_53178 (g + 2) 0 μ ∧ V_X0_settle R 85 [(0, kR g), (1, kR z)] (M_J7_fill_53178 (g + 2) 0 μ)) ∧ (¬ (n ≤ m) → P_X10_isIn s a μ ∧ r32 (F_X10_isIn s a μ) ∧ (((F_X10_isIn s a μ) = 0) → V_X0_settle R 37 [(0, kR g), (1, kR z), (2, kI s), (3, kI n), (4, kI m), (5, kI (a + 1))] μ) ∧ (¬ ((F_X10_isIn s a μ) = 0) → isC g 0 ∧ inA (g + 1) 0 m ∧ V_X0_settle R 68 [(0, kR g), (1, kR z), (2, kI s), (3, kI n), (4, kI m), (5, kI a)] (updm μ (g + 1) m a))))
  exact ⟨⟨H.1, by unfold r32; omega⟩, fun hc5 => ⟨isG_C hg, ⟨(H.2.1 hc5).1, (H.2.1 hc5).2⟩⟩, fun hc5 => ⟨⟨(H.2.2 hc5).1, (H.2.2 hc5).2.1⟩, fun hc4 => ⟨isG_C hg, ⟨((H.2.2 hc5).2.2.1 hc4).1, ((H.2.2 hc5).2.2.1 hc4).2⟩⟩, fun hc4 => ⟨((H.2.2 hc5).2.2.2 hc4).1, ⟨((H.2.2 hc5).2.2.2 hc4).2.1, fun hc3 => (((H.2.2 hc5).2.2.2 hc4).2.2.1 hc3), fun hc3 => ⟨isG_C hg, ⟨isArr.in (Gm_cellar hg) (((H.2.2 hc5).2.2.2 hc4).2.2.2 hc3).1.1 (((H.2.2 hc5).2.2.2 hc4).2.2.2 hc3).1.2, (((H.2.2 hc5).2.2.2 hc4).2.2.2 hc3).2⟩⟩⟩⟩⟩⟩
set_option maxRecDepth 20000 in
theorem vc_X0_settle_68 {R : Mem → Option AV → Prop} {s n m a g z : Int} {μ : Mem} (hg : isG g) (hz : isArr z 0 64) (H : V_X0_settle R 37 [(0, kR g), (1, kR z), (2, kI s), (3, kI n), (4, kI (m + 1)), (5, kI (a + 1))] μ) : V_X0_settle R 68 [(0, kR g), (1, kR z), (2, kI s), (3, kI n), (4, kI m), (5, kI a)] μ := by
  refine vm_step2 mt_X0_settle ok_X0_settle [(22, [0, 1, 2, 3]), (31, [0, 1, 2, 3]), (37, [0, 1, 2, 3, 4, 5]), (68, [0, 1, 2, 3, 4, 5]), (85, [0, 1]), (88, [0, 1, 5]), (104, [0, 1, 5]), (135, [0]), (143, [0]), (147, [0])] 1000 ?_
  show V_X0_settle R 37 [(0, kR g), (1, kR z), (2, kI s), (3, kI n), (4, kI (m + 1)), (5, kI (a + 1))] μ
  exact H
set_option maxRecDepth 20000 in
theorem vc_X0_settle_85 {R : Mem → Option AV → Prop} {g z : Int} {μ : Mem} (hg : isG g) (hz : isArr z 0 64) (H : V_X0_settle R 88 [(0, kR g), (1, kR z), (5, kI 0)] μ) : V_X0_settle R 85 [(0, kR g), (1, kR z)] μ := by
  refine vm_step2 mt_X0_settle ok_X0_settle [(22, [0, 1, 2, 3]), (31, [0, 1, 2, 3]), (37, [0, 1, 2, 3, 4, 5]), (68, [0, 1, 2, 3, 4, 5]), (85, [0, 1]), (88, [0, 1, 5]), (104, [0, 1, 5]), (135, [0]), (143, [0]), (147, [0])] 1000 ?_
  show V_X0_settle R 88 [(0, kR g), (1, kR z), (5, kI 0)] μ
  exact H
set_option maxRecDepth 20000 in
theorem vc_X0_settle_88 {R : Mem → Option AV → Prop} {a g z : Int} {μ : Mem} (hg : isG g) (hz : isArr z 0 64) (H : r32 a ∧ r32 (μ g 1) ∧ (((μ g 1) ≤ a) → P_X0_isSettled g μ ∧ r32 (F_X0_isSettled g μ) ∧ ((¬ (F_X0_isSettled g μ) = 0) → V_X0_settle R 147 [(0, kR g)] μ) ∧ (¬ (¬ (F_X0_isSettled g μ) = 0) → V_X0_settle R 135 [(0, kR g)] (seto μ (g + 3) (cpy0 (μ (g + 2)) (μ (g + 3)) 96)))) ∧ (¬ ((μ g 1) ≤ a) → P_X0_fillRow g z a μ ∧ (∀ (μ7 : Mem), Q_X0_fillRow g z a μ μ7 → V_X0_settle R 104 [(0, kR g), (1, kR z), (5, kI a)] μ7))) : V_X0_settle R 88 [(0, kR g), (1, kR z), (5, kI a)] μ := by
  refine vm_step2 mt_X0_settle ok_X0_settle [(22, [0, 1, 2, 3]), (31, [0, 1, 2, 3]), (37, [0, 1, 2, 3, 4, 5]), (68, [0, 1, 2, 3, 4, 5]), (85, [0, 1]), (88, [0, 1, 5]), (104, [0, 1, 5]), (135, [0]), (143, [0]), (147, [0])] 1000 ?_
  show isC g 0 ∧ (r32 a ∧ r32 (μ g 1)) ∧ (((μ g 1) ≤ a) → isC g 0 ∧ P_X0_isSettled g μ ∧ r32 (F_X0_isSettled g μ) ∧ ((¬ (F_X0_isSettled g μ) = 0) → V_X0_settle R 147 [(0, kR g)] μ) ∧ (¬ (¬ (F_X0_isSettled g μ) = 0) → isC g 0 ∧ isC g 0 ∧ isC g 0 ∧ ((0 ≤ (g + 2) ∧ (g + 2) < 232) ∧ (LAY ((g + 2)).toNat).1 ≤ 3) ∧ ((0 : Int) = 0 ∧ (0 : Int) = 0) ∧ ((0 ≤ (g + 2) ∧ (g + 2) < 232) ∧ (LAY (g + 2).toNat).1 = 0) ∧ ((0 ≤ (g + 3) ∧ (g + 3) < 232) ∧ (LAY (g + 3).toNat).1 = 0) ∧ (0 ≤ (((LAY (g + 2).toNat).2 : Int)) ∧ (((LAY (g + 2).toNat).2 : Int)) ≤ ((LAY ((g + 2)).toNat).2 : Int) ∧ (((LAY (g + 2).toNat).2 : Int)) ≤ ((LAY ((g + 3)).toNat).2 : Int)) ∧ (0 = 2 → ∀ j : Int, 0 ≤ j → j < (((LAY (g + 2).toNat).2 : Int)) → -128 ≤ μ (g + 2) j ∧ μ (g + 2) j ≤ 127) ∧ V_X0_settle R 135 [(0, kR g)] (seto μ (g + 3) (cpy0 (μ (g + 2)) (μ (g + 3)) (((LAY (g + 2).toNat).2 : Int)))))) ∧ (¬ ((μ g 1) ≤ a) → isC g 0 ∧ P_X0_fillRow g z a μ ∧ (∀ (μ7 : Mem), Q_X0_fillRow g z a μ μ7 → V_X0_settle R 104 [(0, kR g), (1, kR z), (5, kI a)] μ7))
  exact ⟨isG_C hg, ⟨⟨H.1, H.2.1⟩, fun hc10 => ⟨isG_C hg, (H.2.2.1 hc10).1, ⟨(H.2.2.1 hc10).2.1, fun hc6 => ((H.2.2.1 hc10).2.2.1 hc6), fun hc6 => ⟨isG_C hg, ⟨isG_C hg, ⟨isG_C hg, ⟨⟨(Gm_found hg).1, by rw [(Gm_found hg).2]; exact Nat.zero_le 3⟩, by rw [(Gm_found hg).2]; exact ⟨⟨rfl, rfl⟩, ⟨(Gm_found hg).1, by first | exact (Gm_found hg).k1 | rfl⟩, ⟨(Gm_settled hg).1, by first | exact (Gm_settled hg).k1 | rfl⟩, (by first | exact cpl (Gm_found hg) (Gm_settled hg) (⟨by omega, by omega⟩ : 0 ≤ (96 : Int) ∧ (96 : Int) ≤ 96) (by decide) (by decide) | exact ⟨by decide, by decide, by rw [(Gm_settled hg).2]; decide⟩), fun q => absurd q (by decide), ((H.2.2.1 hc10).2.2.2 hc6)⟩⟩⟩⟩⟩⟩⟩, fun hc10 => ⟨isG_C hg, (H.2.2.2 hc10).1, fun μ7 hq9 => ((H.2.2.2 hc10).2 μ7 hq9)⟩⟩⟩
set_option maxRecDepth 20000 in
theorem vc_X0_settle_104 {R : Mem → Option AV → Prop} {a g z : Int} {μ : Mem} (hg : isG g) (hz : isArr z 0 64) (H : V_X0_settle R 88 [(0, kR g), (1, kR z), (5, kI (a + 1))] μ) : V_X0_settle R 104 [(0, kR g), (1, kR z), (5, kI a)] μ := by
  refine vm_step2 mt_X0_settle ok_X0_settle [(22, [0, 1, 2, 3]), (31, [0, 1, 2, 3]), (37, [0, 1, 2, 3, 4, 5]), (68, [0, 1, 2, 3, 4, 5]), (85, [0, 1]), (88, [0, 1, 5]), (104, [0, 1, 5]), (135, [0]), (143, [0]), (147, [0])] 1000 ?_
  show V_X0_settle R 88 [(0, kR g), (1, kR z), (5, kI (a + 1))] μ
  exact H
set_option maxRecDepth 20000 in
theorem vc_X0_settle_135 {R : Mem → Option AV → Prop} {g z : Int} {μ : Mem} (hg : isG g) (hz : isArr z 0 64) (H : V_X0_settle R 143 [(0, kR g)] (updm μ g 5 (μ g 0))) : V_X0_settle R 135 [(0, kR g)] μ := by
  refine vm_step2 mt_X0_settle ok_X0_settle [(22, [0, 1, 2, 3]), (31, [0, 1, 2, 3]), (37, [0, 1, 2, 3, 4, 5]), (68, [0, 1, 2, 3, 4, 5]), (85, [0, 1]), (88, [0, 1, 5]), (104, [0, 1, 5]), (135, [0]), (143, [0]), (147, [0])] 1000 ?_
  show isC g 0 ∧ isC g 0 ∧ 0 = 0 ∧ True ∧ V_X0_settle R 143 [(0, kR g)] (updm μ g 5 (μ g 0))
  exact ⟨isG_C hg, ⟨isG_C hg, rfl, trivial, H⟩⟩
set_option maxRecDepth 20000 in
theorem vc_X0_settle_143 {R : Mem → Option AV → Prop} {g z : Int} {μ : Mem} (hg : isG g) (hz : isArr z 0 64) (H : P_X0_search g μ ∧ (∀ (μ11 : Mem), Q_X0_search g μ μ11 → V_X0_settle R 147 [(0, kR g)] μ11)) : V_X0_settle R 143 [(0, kR g)] μ := by
  refine vm_step2 mt_X0_settle ok_X0_settle [(22, [0, 1, 2, 3]), (31, [0, 1, 2, 3]), (37, [0, 1, 2, 3, 4, 5]), (68, [0, 1, 2, 3, 4, 5]), (85, [0, 1]), (88, [0, 1, 5]), (104, [0, 1, 5]), (135, [0]), (143, [0]), (147, [0])] 1000 ?_
  show isC g 0 ∧ P_X0_search g μ ∧ (∀ (μ11 : Mem), Q_X0_search g μ μ11 → V_X0_settle R 147 [(0, kR g)] μ11)
  exact ⟨isG_C hg, H.1, fun μ11 hq13 => (H.2 μ11 hq13)⟩
set_option maxRecDepth 20000 in
theorem vc_X0_settle_147 {R : Mem → Option AV → Prop} {g z : Int} {μ : Mem} (hg : isG g) (hz : isArr z 0 64) (H : r32 (μ g 14) ∧ (((μ g 14) ≤ 0) → R μ (some (kI 0))) ∧ (¬ ((μ g 14) ≤ 0) → R μ (some (kI 1)))) : V_X0_settle R 147 [(0, kR g)] μ := by
  refine vm_step2 mt_X0_settle ok_X0_settle [(22, [0, 1, 2, 3]), (31, [0, 1, 2, 3]), (37, [0, 1, 2, 3, 4, 5]), (68, [0, 1, 2, 3, 4, 5]), (85, [0, 1]), (88, [0, 1, 5]), (104, [0, 1, 5]), (135, [0]), (143, [0]), (147, [0])] 1000 ?_
  show isC g 0 ∧ r32 (μ g 14) ∧ (((μ g 14) ≤ 0) → (0 ≤ (0 : Int) ∧ (0 : Int) ≤ 1) ∧ R μ (some (kI 0))) ∧ (¬ ((μ g 14) ≤ 0) → (0 ≤ (1 : Int) ∧ (1 : Int) ≤ 1) ∧ R μ (some (kI 1)))
  exact ⟨isG_C hg, ⟨H.1, fun hc14 => ⟨⟨by omega, by omega⟩, (H.2.1 hc14)⟩, fun hc14 => ⟨⟨by omega, by omega⟩, (H.2.2 hc14)⟩⟩⟩
theorem body_X0_settle {g z s : Int} {μ : Mem} {R : Mem → Option AV → Prop} (h : P_X0_settle g z s μ) (hR : ∀ (μ' : Mem) (r : Int), Q_X0_settle g z s μ μ' r → R μ' (some (kI r))) : V_X0_settle R 0 [(0, kR g), (1, kR z), (2, kI s)] μ := by
  obtain ⟨hg, hz, hzg, hs, hW, hinv⟩ := h
  have hg2 := isG_two hg
  have hpb := popc_bd (s := s)
  refine vc_X0_settle_0 hg hz ?_
  unfold F_J6_bitCount_0f7a4
  refine ⟨hs, rr (by omega), fun c => hR μ 0 ⟨fun _ _ => rfl, hinv, fun _ => rfl, fun q => by omega⟩, fun c => ⟨rr (by omega), fun c2 => vc_X0_settle_22 hg hz ⟨by omega, vc_X0_settle_31 hg hz ?_⟩, fun c2 => hR μ 0 ⟨fun _ _ => rfl, hinv, fun _ => rfl, fun q => by omega⟩⟩⟩
  have hn : 1 ≤ popc s ∧ popc s ≤ 4 := by omega
  have epc : popc s = cntB s 8 := rfl
  generalize hne : popc s = n at *
  have h24 := sv0_bd (show 0 ≤ n by omega) hn.2
  have f0 : ∀ y : Int, y ≠ g → updm (updm μ g 0 n) g 1 (SV 0 n) y = μ y := fun y hy => by rw [ru_ne hy, ru_ne hy]
  have g0 : updm (updm μ g 0 n) g 1 (SV 0 n) g 0 = n := by rw [ru_eq, r1_ne (by omega), ru_eq, r1_eq]
  have g1 : updm (updm μ g 0 n) g 1 (SV 0 n) g 1 = SV 0 n := by rw [ru_eq, r1_eq]
  have gf : ∀ f : Int, 1 < f → updm (updm μ g 0 n) g 1 (SV 0 n) g f = μ g f := fun f hf => by rw [ru_eq, r1_ne (by omega), ru_eq, r1_ne (by omega)]
  generalize updm (updm μ g 0 n) g 1 (SV 0 n) = m0 at f0 g0 g1 gf
  -- the rows
  have rows : ∀ m : Mem, (∀ y : Int, y ≠ g + 1 → m y = m0 y) → (∀ j : Int, 0 ≤ j → j < n → m (g + 1) j = mthV s j) → P_J7_fill_53178 (g + 2) 0 m ∧ V_X0_settle R 85 [(0, kR g), (1, kR z)] (M_J7_fill_53178 (g + 2) 0 m) := by
    intro m hf hc
    have ha := Gm_found hg
    refine ⟨⟨96, ha, by omega⟩, vc_X0_settle_85 hg hz ?_⟩
    have z2 : ∀ x : Int, 0 ≤ x → x < 96 → M_J7_fill_53178 (g + 2) 0 m (g + 2) x = 0 := fun x x0 x1 => by
      unfold M_J7_fill_53178
      rw [rs_eq]
      have e : (LAY (g + 2).toNat).2 = 96 := by rw [ha.2]
      rw [e]
      exact if_pos ⟨x0, x1⟩
    have f2 : ∀ y : Int, y ≠ g + 2 → M_J7_fill_53178 (g + 2) 0 m y = m y := fun y hy => rs_ne hy
    generalize M_J7_fill_53178 (g + 2) 0 m = m1 at z2 f2
    have hcel : ∀ j : Int, 0 ≤ j → j < n → (0 ≤ m (g + 1) j ∧ m (g + 1) j < 8) ∧ hasB s (m (g + 1) j) = true := fun j j0 j1 => by
      rw [hc j j0 j1]
      exact mth_in j0 (by omega)
    have tb : ∀ r k : Int, 0 ≤ r → r < SV 0 n → 0 ≤ k → k ≤ n → 0 ≤ timG (fun a b => μ z (a * 8 + b)) (m (g + 1)) n r k ∧ timG (fun a b => μ z (a * 8 + b)) (m (g + 1)) n r k ≤ 560 := fun r k r0 r1 k0 k1 => by
      have h := sm_bd (f := fun j => μ z (prevG (m (g + 1)) n r j * 8 + m (g + 1) (ordV n r j))) (n := k) (c := 0) (d := 140) (fun j j0 j1 => by
        have p1 := pr_at (show 0 ≤ n by omega) hn.2 r0 r1 j0 (show j < n by omega)
        have c1 := hcel _ p1.1.1.1 p1.1.1.2
        show 0 ≤ μ z (prevG (m (g + 1)) n r j * 8 + m (g + 1) (ordV n r j)) ∧ μ z (prevG (m (g + 1)) n r j * 8 + m (g + 1) (ordV n r j)) ≤ 140
        unfold prevG
        by_cases c : j = 0
        · rw [if_pos c]
          exact hW 0 _ (Int.le_refl _) (by omega) (Or.inl rfl) c1.1.1 c1.1.2 c1.2
        · rw [if_neg c]
          have p2 := pr_at (show 0 ≤ n by omega) hn.2 r0 r1 (show 0 ≤ j - 1 by omega) (show j - 1 < n by omega)
          have c2 := hcel _ p2.1.1.1 p2.1.1.2
          exact hW _ _ c2.1.1 c2.1.2 (Or.inr c2.2) c1.1.1 c1.1.2 c1.2) k0
      have e : timG (fun a b => μ z (a * 8 + b)) (m (g + 1)) n r k = sm (fun j => μ z (prevG (m (g + 1)) n r j * 8 + m (g + 1) (ordV n r j))) k := rfl
      rw [e]
      omega
    have pr : ∀ r : Int, 0 ≤ r → r ≤ SV 0 n → ∀ m2 : Mem, (∀ y : Int, y ≠ g + 2 → m2 y = m y) → (∀ r' k : Int, 0 ≤ r' → r' < r → 0 ≤ k → k < n → m2 (g + 2) (ordV n r' k * 24 + r') = timG (fun a b => μ z (a * 8 + b)) (m (g + 1)) n r' (k + 1)) → (∀ x : Int, 0 ≤ x → x < 96 → (∀ r' k : Int, 0 ≤ r' → r' < r → 0 ≤ k → k < n → x ≠ ordV n r' k * 24 + r') → m2 (g + 2) x = 0) → V_X0_settle R 88 [(0, kR g), (1, kR z), (5, kI r)] m2 := by
      refine up_ind (P := fun r => ∀ m2 : Mem, (∀ y : Int, y ≠ g + 2 → m2 y = m y) → (∀ r' k : Int, 0 ≤ r' → r' < r → 0 ≤ k → k < n → m2 (g + 2) (ordV n r' k * 24 + r') = timG (fun a b => μ z (a * 8 + b)) (m (g + 1)) n r' (k + 1)) → (∀ x : Int, 0 ≤ x → x < 96 → (∀ r' k : Int, 0 ≤ r' → r' < r → 0 ≤ k → k < n → x ≠ ordV n r' k * 24 + r') → m2 (g + 2) x = 0) → V_X0_settle R 88 [(0, kR g), (1, kR z), (5, kI r)] m2) ?_ ?_
      · intro r r0 r1 ih m2 hf2 hk hx
        have e1 : m2 g 1 = SV 0 n := by rw [hf2 g (by omega), hf g (by omega)]; exact g1
        have e0 : m2 g 0 = n := by rw [hf2 g (by omega), hf g (by omega)]; exact g0
        have ec : m2 (g + 1) = m (g + 1) := hf2 _ (by omega)
        have ez : m2 z = μ z := by rw [hf2 z (by omega), hf z (by omega), f0 z (by omega)]
        refine vc_X0_settle_88 hg hz ?_
        rw [e1]
        refine ⟨rr (by omega), rr (by omega), fun q => absurd q (by omega), fun _ => ⟨⟨hg, hz, by omega, by omega, by rw [e0]; exact ⟨r0, r1⟩, fun c c0 c1 => by rw [ec]; rw [e0] at c1; exact (hcel c c0 c1).1⟩, fun m7 q7 => vc_X0_settle_104 hg hz ?_⟩⟩
        unfold Q_X0_fillRow at q7
        rw [e0, ec, ez] at q7
        obtain ⟨y7, k7, x7⟩ := q7
        refine ih m7 (fun y hy => by rw [y7 y hy]; exact hf2 y hy) (fun r' k a0 a1 a2 a3 => ?_) (fun x x0 x1 hxx => ?_)
        · by_cases e : r' = r
          · subst e; exact k7 k a2 a3
          · rw [x7 _ (fun k' b0 b1 => ?_)]
            · exact hk r' k a0 (by omega) a2 a3
            · intro q
              have p1 := pr_at (show 0 ≤ n by omega) hn.2 a0 (show r' < SV 0 n by omega) a2 a3
              have p2 := pr_at (show 0 ≤ n by omega) hn.2 r0 r1 b0 b1
              omega
        · rw [x7 x (fun k b0 b1 => hxx r k r0 (by omega) b0 b1)]
          exact hx x x0 x1 (fun r' k b0 b1 b2 b3 => hxx r' k b0 (by omega) b2 b3)
      · intro m2 hf2 hk hx
        have e1 : m2 g 1 = SV 0 n := by rw [hf2 g (by omega), hf g (by omega)]; exact g1
        have e0 : m2 g 0 = n := by rw [hf2 g (by omega), hf g (by omega)]; exact g0
        have ef : ∀ f : Int, 1 < f → m2 g f = μ g f := fun f h1 => by rw [hf2 g (by omega), hf g (by omega), gf f h1]
        have ec : m2 (g + 1) = m (g + 1) := hf2 _ (by omega)
        have ey : ∀ y : Int, y ≠ g → y ≠ g + 1 → y ≠ g + 2 → m2 y = μ y := fun y y0 y1 y2 => by rw [hf2 y y2, hf y y1, f0 y y0]
        -- all that stands in found
        have fb : ∀ x : Int, 0 ≤ x → x < 96 → 0 ≤ m2 (g + 2) x ∧ m2 (g + 2) x ≤ 560 := by
          intro x x0 x1
          by_cases q : ∃ r k : Int, (0 ≤ r ∧ r < SV 0 n) ∧ (0 ≤ k ∧ k < n) ∧ x = ordV n r k * 24 + r
          · obtain ⟨r, k, hr, hk2, e⟩ := q
            rw [e, hk r k hr.1 hr.2 hk2.1 hk2.2]
            exact tb r (k + 1) hr.1 hr.2 (by omega) (by omega)
          · rw [hx x x0 x1 (fun r k b0 b1 b2 b3 e => q ⟨r, k, ⟨b0, b1⟩, ⟨b2, b3⟩, e⟩)]
            omega
        have hgb : GB m2 g := ⟨hg, by omega, by omega, fun c r c0 c1 r0 r1 => fb _ (by omega) (by omega), fun i j i0 i1 j0 j1 => by rw [ey _ (by omega) (by omega) (by omega)]; exact hinv.1 i j i0 i1 j0 j1⟩
        have hfa : ∀ F : Int → Int → Int, (∀ c r : Int, 0 ≤ c → c < 4 → 0 ≤ r → r < 24 → F c r = m2 (g + 2) (c * 24 + r)) → FoundA F (fun a b => μ z (a * 8 + b)) (mthV s) n := by
          intro F hF r k r0 r1 k0 k1
          have p1 := pr_at (show 0 ≤ n by omega) hn.2 r0 r1 k0 k1
          rw [hF _ r p1.1.1.1 (by omega) r0 (by omega), hk r k r0 r1 k0 k1]
          exact timG_congr (by omega) hn.2 r0 r1 (by omega) hc
        have e5 : m2 g 5 = μ g 5 := ef 5 (by omega)
        have e3 : m2 (g + 3) = μ (g + 3) := ey _ (by omega) (by omega) (by omega)
        -- the end
        have fin : ∀ m3 : Mem, (∀ y : Int, (y < g ∨ g + 10 < y) → m3 y = μ y) → GInv m3 g → m3 g 0 = n → m3 (g + 1) = m (g + 1) → (∃ F : Int → Int → Int, KerR m3 g F n (SV 0 n) ∧ FoundA F (fun a b => μ z (a * 8 + b)) (mthV s) n) → V_X0_settle R 147 [(0, kR g)] m3 := by
          intro m3 h3 hi h0 h1 hF
          have sz : 0 ≤ m3 g 14 ∧ m3 g 14 ≤ n := by
            obtain ⟨F, q, _⟩ := hF
            exact KerR_size q hn.1
          have post : ∀ r : Int, r = (if 0 < m3 g 14 then 1 else 0) → R m3 (some (kI r)) := fun r hr => hR m3 r ⟨h3, hi, fun q => absurd (show 1 ≤ popc s ∧ popc s ≤ 4 by omega) q, fun _ => ⟨hr, by omega, fun j j0 j1 => by rw [h1]; exact hc j j0 (by omega), by rw [hne]; exact hF⟩⟩
          exact vc_X0_settle_147 hg hz ⟨rr (by omega), fun c => post 0 (by rw [if_neg (by omega)]), fun c => post 1 (by rw [if_pos (by omega)])⟩
        refine vc_X0_settle_88 hg hz ?_
        rw [e1]
        refine ⟨rr (by omega), rr (by omega), fun _ => ⟨⟨hg, fun i i0 i1 => ⟨by have := fb i i0 i1; exact rr (by omega), by rw [e3]; exact hinv.2.1 i i0 i1⟩, by rw [e5]; have := hinv.2.2.1; exact rr (by omega), rr (by omega)⟩, ?_⟩, fun c => absurd (Int.le_refl _) c⟩
        unfold F_X0_isSettled
        by_cases hsame : (allV (fun i => decide (m2 (g + 2) i = m2 (g + 3) i)) 96 && decide (m2 g 5 = m2 g 0)) = true
        · rw [if_pos hsame]
          refine ⟨rr (by omega), fun _ => ?_, fun q => absurd (show ¬ (1 : Int) = 0 by omega) q⟩
          have ⟨s1, s2⟩ := Bool.and_eq_true _ _ |>.mp hsame
          have s1 := (allV_ok (by omega)).mp s1
          have s2 := of_decide_eq_true s2
          rw [e5, e0] at s2
          obtain ⟨F, hF1, hF2⟩ := hinv.2.2.2 (by omega)
          rw [s2] at hF2
          have hk2 : KerR m2 g F n (SV 0 n) := KerR_frame hF2 (ey _ (by omega) (by omega) (by omega)) (ey _ (by omega) (by omega) (by omega)) (ey _ (by omega) (by omega) (by omega)) (ey _ (by omega) (by omega) (by omega)) (ef 14 (by omega)) (ef 15 (by omega)) (ef 16 (by omega))
          refine fin m2 (fun y hy => ey y (by omega) (by omega) (by omega)) ⟨hgb.2.2.2.2, by rw [e3]; exact hinv.2.1, by rw [e5]; exact hinv.2.2.1, fun _ => ⟨F, by rw [e3]; exact hF1, by rw [e5, s2]; exact hk2⟩⟩ e0 ec ⟨F, hk2, hfa F (fun c r c0 c1 r0 r1 => ?_)⟩
          have := of_decide_eq_true (s1 (c * 24 + r) (by omega) (by omega))
          rw [hF1 c r c0 c1 r0 r1, this, e3]
        · rw [if_neg hsame]
          refine ⟨rr (by omega), fun q => absurd rfl q, fun _ => vc_X0_settle_135 hg hz (vc_X0_settle_143 hg hz ?_)⟩
          have x3 : ∀ i : Int, 0 ≤ i → i < 96 → updm (seto m2 (g + 3) (cpy0 (m2 (g + 2)) (m2 (g + 3)) 96)) g 5 (seto m2 (g + 3) (cpy0 (m2 (g + 2)) (m2 (g + 3)) 96) g 0) (g + 3) i = m2 (g + 2) i := fun i i0 i1 => by
            rw [ru_ne (by omega), rs_eq, cpy_in i0 i1]
          have xy : ∀ y : Int, y ≠ g → y ≠ g + 3 → updm (seto m2 (g + 3) (cpy0 (m2 (g + 2)) (m2 (g + 3)) 96)) g 5 (seto m2 (g + 3) (cpy0 (m2 (g + 2)) (m2 (g + 3)) 96) g 0) y = m2 y := fun y y0 y1 => by rw [ru_ne y0, rs_ne y1]
          have xf : ∀ f : Int, f ≠ 5 → updm (seto m2 (g + 3) (cpy0 (m2 (g + 2)) (m2 (g + 3)) 96)) g 5 (seto m2 (g + 3) (cpy0 (m2 (g + 2)) (m2 (g + 3)) 96) g 0) g f = m2 g f := fun f hf => by rw [ru_eq, r1_ne hf, rs_ne (by omega)]
          have x5 : updm (seto m2 (g + 3) (cpy0 (m2 (g + 2)) (m2 (g + 3)) 96)) g 5 (seto m2 (g + 3) (cpy0 (m2 (g + 2)) (m2 (g + 3)) 96) g 0) g 5 = n := by rw [ru_eq, r1_eq, rs_ne (by omega)]; exact e0
          generalize updm (seto m2 (g + 3) (cpy0 (m2 (g + 2)) (m2 (g + 3)) 96)) g 5 (seto m2 (g + 3) (cpy0 (m2 (g + 2)) (m2 (g + 3)) 96) g 0) = m4 at x3 xy xf x5
          have hgb4 : GB m4 g := GB_frame hgb (xf 0 (by omega)) (xf 1 (by omega)) (xy _ (by omega) (by omega)) (xy _ (by omega) (by omega))
          refine ⟨hgb4, fun m5 q5 => ?_⟩
          obtain ⟨⟨y5, f5⟩, k5⟩ := q5
          rw [xf 0 (by omega), xf 1 (by omega), e0, e1] at k5
          have eF : Fm m4 g = Fm m2 g := Fm_frame (xy _ (by omega) (by omega))
          rw [eF] at k5
          have y3 : m5 (g + 3) = m4 (g + 3) := y5 _ (by omega) (by omega)
          have z5 : m5 g 5 = n := by rw [f5 5 (by omega)]; exact x5
          refine fin m5 (fun y hy => by rw [y5 y (by omega) (by omega), xy y (by omega) (by omega)]; exact ey y (by omega) (by omega) (by omega)) ⟨fun i j i0 i1 j0 j1 => by rw [y5 _ (by omega) (by omega)]; exact hgb4.2.2.2.2 i j i0 i1 j0 j1, fun i i0 i1 => by
            rw [y3, x3 i i0 i1]
            have := fb i i0 i1
            exact rr (by omega), by omega, fun _ => ⟨Fm m2 g, fun c r c0 c1 r0 r1 => by rw [y3, x3 _ (by omega) (by omega)]; rfl, by rw [z5]; exact k5⟩⟩ (by rw [f5 0 (by omega), xf 0 (by omega)]; exact e0) (by rw [y5 _ (by omega) (by omega), xy _ (by omega) (by omega)]; exact ec) ⟨Fm m2 g, k5, hfa _ (fun _ _ _ _ _ _ => rfl)⟩
    refine pr 0 (Int.le_refl _) (by omega) m1 f2 (fun r' k a0 a1 => absurd a0 (by omega)) (fun x x0 x1 _ => z2 x x0 x1)
  -- the cellars
  have pa : ∀ a : Int, 0 ≤ a → a ≤ 8 → ∀ m : Mem, (∀ y : Int, y ≠ g + 1 → m y = m0 y) → (∀ j : Int, 0 ≤ j → j < cntB s a → m (g + 1) j = mthV s j) → V_X0_settle R 37 [(0, kR g), (1, kR z), (2, kI s), (3, kI n), (4, kI (cntB s a)), (5, kI a)] m := by
    refine up_ind (P := fun a => ∀ m : Mem, (∀ y : Int, y ≠ g + 1 → m y = m0 y) → (∀ j : Int, 0 ≤ j → j < cntB s a → m (g + 1) j = mthV s j) → V_X0_settle R 37 [(0, kR g), (1, kR z), (2, kI s), (3, kI n), (4, kI (cntB s a)), (5, kI a)] m) ?_ ?_
    · intro a a0 a1 ih m hf hc
      have hcb := cntB_bd (s := s) a0
      have hs2 := cntB_s (s := s) a0
      refine vc_X0_settle_37 hg hz ⟨rr (by omega), fun q => absurd q (by omega), fun _ => ⟨rr (by omega), rr (by omega), fun q => rows m hf (fun j j0 j1 => hc j j0 (by omega)), fun q => ⟨⟨⟨by omega, by omega⟩, by omega, by omega⟩, ?_⟩⟩⟩
      unfold F_X10_isIn
      by_cases hy : hasB s a = true
      · rw [if_pos hy]
        rw [if_pos hy] at hs2
        refine ⟨rr (by omega), fun q => absurd q (by omega), fun _ => ⟨by omega, vc_X0_settle_68 hg hz ?_⟩⟩
        rw [← hs2]
        refine ih _ (fun y hy => by rw [ru_ne hy]; exact hf y hy) (fun j j0 j1 => ?_)
        rw [ru_eq]
        by_cases e : j = cntB s a
        · rw [e, r1_eq, mth_at a0 a1 hy]
        · rw [r1_ne e]; exact hc j j0 (by omega)
      · rw [if_neg hy]
        rw [if_neg hy, Int.add_zero] at hs2
        refine ⟨rr (by omega), fun _ => ?_, fun q => absurd rfl q⟩
        have := ih m hf (fun j j0 j1 => hc j j0 (by omega))
        rw [hs2] at this
        exact this
    · intro m hf hc
      exact vc_X0_settle_37 hg hz ⟨rr (by omega), fun _ => rows m hf (fun j j0 j1 => hc j j0 (by omega)), fun q => absurd (Int.le_refl _) q⟩
  exact pa 0 (Int.le_refl _) (by omega) m0 (fun _ _ => rfl) (fun j j0 j1 => absurd j1 (show ¬ j < 0 by omega))
theorem ct_X0_settle : Ct mX0_settle 3 83 0 0 (nrmS S_X0_settle) := by
  refine ct_vm (own := RX0) (by decide +kernel) rfl ?_ ?_
  · intro as μ Q hS
    unfold S_X0_settle at hS
    split at hS
    · exact Nat.le_of_ble_eq_true rfl
    · exact hS.elim
  · intro as μ R hS
    unfold S_X0_settle at hS
    split at hS
    · exact body_X0_settle hS.1 hS.2
    · exact hS.elim
