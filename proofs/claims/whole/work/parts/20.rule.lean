/-! a method of the finished world: from here it returns, and R holds -/
def VM (y : Mt) (own : String) (fr lo : Nat) (R : Mem → Option AV → Prop) (pc : Nat) (lc : List (Nat × AV)) (st : List AV) (μ : Mem) : Prop := ∀ (G : Cxt) (Q : Mem → Option AV → Prop), (∀ μ r, Lk μ → R μ r → Q μ r) → Lk μ → Vc y own fr lo 0 0 G 232 Q pc lc st μ 232 0
theorem vm_lk {y : Mt} {own : String} {fr lo : Nat} {R : Mem → Option AV → Prop} {pc : Nat} {lc : List (Nat × AV)} {st : List AV} {μ : Mem} (h : Lk μ → VM y own fr lo R pc lc st μ) : VM y own fr lo R pc lc st μ := fun G Q hQ hL => h hL G Q hQ hL
theorem vm_step {I : Inf} {y : Mt} {own : String} {fr lo : Nat} (hI : infOK I y own fr lo) {R : Mem → Option AV → Prop} (cuts : List (Nat × List Nat)) (f : Nat) {pc : Nat} {lc : List (Nat × AV)} {st : List AV} {μ : Mem} (h : wpc I y cuts (VM y own fr lo R) R f pc lc st μ) : VM y own fr lo R pc lc st μ :=
  fun G Q hQ hL => wpc_sound hI (K := VM y own fr lo R) (Rt := R) (fun _ _ _ _ hL k => k G Q hQ hL) hQ f pc lc st μ hL h
theorem vm_post {y : Mt} {own : String} {fr lo : Nat} {R R' : Mem → Option AV → Prop} {pc : Nat} {lc : List (Nat × AV)} {st : List AV} {μ : Mem} (hR : ∀ μ r, R μ r → R' μ r) (h : VM y own fr lo R pc lc st μ) : VM y own fr lo R' pc lc st μ := fun G Q hQ hL => h G Q (fun μ r hL q => hQ μ r hL (hR μ r q)) hL
theorem ct_vm {y : Mt} {own : String} {fr lo : Nat} {S : S0t} (hn : plainName y.1.cls = true) (hown : own = y.1.cls) (hlen : ∀ (as : List AV) (μ : Mem) (Q : Mem → Option AV → Prop), S as μ Q → (as.map fun v => if v.1 = 1 then 2 else 1).sum ≤ y.2.2.1) (h : ∀ (as : List AV) (μ : Mem) (R : Mem → Option AV → Prop), S as μ R → VM y own fr lo R 0 (ent 0 as) [] μ) : Ct y fr lo 0 0 (nrmS S) :=
  ct_of hn hown (fun n as μ Q hS => hlen as μ _ hS.2.2) (fun G n as μ Q hS => by
    obtain ⟨rfl, hL, hS⟩ := hS
    exact h as μ _ hS G Q (fun μ r hL q => q hL) hL)
theorem c_nil {own : String} {fr lo : Nat} : ∀ idx e, (idx, e) ∈ ([] : List (Nat × CallE)) → callOK own fr lo idx e := fun _ _ h => by cases h
theorem c_cons {own : String} {fr lo idx : Nat} {e : CallE} {l : List (Nat × CallE)} (h : callOK own fr lo idx e) (t : ∀ idx e, (idx, e) ∈ l → callOK own fr lo idx e) : ∀ idx' e', (idx', e') ∈ (idx, e) :: l → callOK own fr lo idx' e' := by
  intro i x hm
  rcases List.mem_cons.mp hm with q | q
  · cases q; exact h
  · exact t i x q
/-! calls of Math: min (0), max (1) of ints, abs (2) of a long -/
def mtOK (mt : List (Nat × Nat)) (own : String) (fr lo : Nat) : Prop := ∀ idx k, (idx, k) ∈ mt → Cond.initialized "java/lang/Math" ∈ lw_ok ∧ 1 ≤ fr ∧ 21 ≤ lo ∧ (match k with
  | 0 => Cond.methodLink own idx Lib.Math.min.name ∈ lw_ok ∧ Cond.static Lib.Math.min.name ∈ lw_ok ∧ Cond.code Lib.Math.min.name Lib.Math.min.code 2 (some .int) ∈ lw_ok
  | 1 => Cond.methodLink own idx Lib.Math.max.name ∈ lw_ok ∧ Cond.static Lib.Math.max.name ∈ lw_ok ∧ Cond.code Lib.Math.max.name Lib.Math.max.code 2 (some .int) ∈ lw_ok
  | _ => Cond.methodLink own idx Lib.MathLoose.abs_long.x ∈ lw_ok ∧ Cond.static Lib.MathLoose.abs_long.x ∈ lw_ok ∧ Cond.code Lib.MathLoose.abs_long.x Lib.MathLoose.abs_long.code 2 (some .long) ∈ lw_ok)
def mstp (k : Nat) (st : List AV) (K : List AV → Prop) : Prop := match k, st with
  | 0, (0, b) :: (0, a) :: st => (match Nat.ble (st.map fun v => if v.1 = 1 then 2 else 1).sum 8 with
    | true => (r32 a ∧ r32 b) ∧ K (kI (min a b) :: st)
    | false => False)
  | 1, (0, b) :: (0, a) :: st => (match Nat.ble (st.map fun v => if v.1 = 1 then 2 else 1).sum 8 with
    | true => (r32 a ∧ r32 b) ∧ K (kI (max a b) :: st)
    | false => False)
  | 2, (1, a) :: st => (match Nat.ble (st.map fun v => if v.1 = 1 then 2 else 1).sum 8 with
    | true => r64 a ∧ K (kL (if 0 < a then a else -a) :: st)
    | false => False)
  | _, _ => False
def stp2 (mt : List (Nat × Nat)) (I : Inf) (y : Mt) (i : Instr) (pc : Nat) (lc : List (Nat × AV)) (st : List AV) (μ : Mem) (K : Nat → List (Nat × AV) → List AV → Mem → Prop) (Rt : Mem → Option AV → Prop) : Prop :=
  match i with
  | .invokestatic idx => match mt.lookup idx with
    | some k => mstp k st (fun st => K (pc + 3) lc st μ)
    | none => stp I y (.invokestatic idx) pc lc st μ K Rt
  | i => stp I y i pc lc st μ K Rt
def wpc2 (mt : List (Nat × Nat)) (I : Inf) (y : Mt) (cuts : List (Nat × List Nat)) (K : Nat → List (Nat × AV) → List AV → Mem → Prop) (Rt : Mem → Option AV → Prop) : Nat → Nat → List (Nat × AV) → List AV → Mem → Prop
  | 0, _, _, _, _ => False
  | f + 1, pc, lc, st, μ => match I.1.lookup pc with
    | none => False
    | some i => stp2 mt I y i pc lc st μ (fun pc lc st μ => match cuts.lookup pc with
      | some ks => match nrml lc ks with
        | some lc' => K pc lc' st μ
        | none => False
      | none => wpc2 mt I y cuts K Rt f pc lc st μ) Rt
section K20
variable {y : Mt} {own : String} {fr lo : Nat} {G : Cxt} {Q : Mem → Option AV → Prop} {pc : Nat} {lc : List (Nat × AV)} {st : List AV} {μ : Mem} {I : Inf}
theorem k_mmin {idx : Nat} {a b : Int} (h : (r32 a ∧ r32 b)) (m1 : Cond.initialized "java/lang/Math" ∈ lw_ok) (m2 : 1 ≤ fr) (m3 : 21 ≤ lo) (m4 : Cond.methodLink own idx Lib.Math.min.name ∈ lw_ok ∧ Cond.static Lib.Math.min.name ∈ lw_ok ∧ Cond.code Lib.Math.min.name Lib.Math.min.code 2 (some .int) ∈ lw_ok) (hs : (st.map fun v => if v.1 = 1 then 2 else 1).sum ≤ 8) (hd : decode y.2.1 pc = .ok (.invokestatic idx, 3)) (k : Vc y own fr lo 0 0 G 232 Q (pc + 3) lc (kI (min a b) :: st) μ 232 0) : Vc y own fr lo 0 0 G 232 Q pc lc (kI b :: kI a :: st) μ 232 0 := by
  intro p l e s m args below meth c C H locs ls h1 h2 h3 h4
  have kk := k p l e s m args below meth c C H locs ls h1 h2 h3 h4
  obtain ⟨hx, hb, hml, hown, hts, hret, hlk, hnm, hT0, hS0, hsz⟩ := C
  have hroom : ((st.map (cv G)).map fun v => v.category).sum + 13 ≤ lo := by rw [cat_sum]; omega
  refine va_mmin (x := Int32.ofInt a) (y := Int32.ofInt b) hx hb (hml.trans h3.1.symm) hown (ok_before hts m4.1) (ok_before hts m4.2.1) (ok_before hts m1) (ok_before hts m4.2.2) m2 hroom (by show 232 - 232 ≤ 0; omega) (Nat.le_refl _) hd ?_
  have e : (if Int32.ofInt b < Int32.ofInt a then Int32.ofInt b else Int32.ofInt a) = Int32.ofInt (min a b) := by
    simp only [n_lt h.2 h.1]
    by_cases q : b < a
    · rw [if_pos q]; congr 1; omega
    · rw [if_neg q]; congr 1; omega
  rw [e]
  exact kk
theorem k_mmax {idx : Nat} {a b : Int} (h : (r32 a ∧ r32 b)) (m1 : Cond.initialized "java/lang/Math" ∈ lw_ok) (m2 : 1 ≤ fr) (m3 : 21 ≤ lo) (m4 : Cond.methodLink own idx Lib.Math.max.name ∈ lw_ok ∧ Cond.static Lib.Math.max.name ∈ lw_ok ∧ Cond.code Lib.Math.max.name Lib.Math.max.code 2 (some .int) ∈ lw_ok) (hs : (st.map fun v => if v.1 = 1 then 2 else 1).sum ≤ 8) (hd : decode y.2.1 pc = .ok (.invokestatic idx, 3)) (k : Vc y own fr lo 0 0 G 232 Q (pc + 3) lc (kI (max a b) :: st) μ 232 0) : Vc y own fr lo 0 0 G 232 Q pc lc (kI b :: kI a :: st) μ 232 0 := by
  intro p l e s m args below meth c C H locs ls h1 h2 h3 h4
  have kk := k p l e s m args below meth c C H locs ls h1 h2 h3 h4
  obtain ⟨hx, hb, hml, hown, hts, hret, hlk, hnm, hT0, hS0, hsz⟩ := C
  have hroom : ((st.map (cv G)).map fun v => v.category).sum + 13 ≤ lo := by rw [cat_sum]; omega
  refine va_mmax (x := Int32.ofInt a) (y := Int32.ofInt b) hx hb (hml.trans h3.1.symm) hown (ok_before hts m4.1) (ok_before hts m4.2.1) (ok_before hts m1) (ok_before hts m4.2.2) m2 hroom (by show 232 - 232 ≤ 0; omega) (Nat.le_refl _) hd ?_
  have e : (if Int32.ofInt a < Int32.ofInt b then Int32.ofInt b else Int32.ofInt a) = Int32.ofInt (max a b) := by
    simp only [n_lt h.1 h.2]
    by_cases q : a < b
    · rw [if_pos q]; congr 1; omega
    · rw [if_neg q]; congr 1; omega
  rw [e]
  exact kk
theorem k_mabs {idx : Nat} {a : Int} (h : r64 a) (m1 : Cond.initialized "java/lang/Math" ∈ lw_ok) (m2 : 1 ≤ fr) (m3 : 21 ≤ lo) (m4 : Cond.methodLink own idx Lib.MathLoose.abs_long.x ∈ lw_ok ∧ Cond.static Lib.MathLoose.abs_long.x ∈ lw_ok ∧ Cond.code Lib.MathLoose.abs_long.x Lib.MathLoose.abs_long.code 2 (some .long) ∈ lw_ok) (hs : (st.map fun v => if v.1 = 1 then 2 else 1).sum ≤ 8) (hd : decode y.2.1 pc = .ok (.invokestatic idx, 3)) (k : Vc y own fr lo 0 0 G 232 Q (pc + 3) lc (kL (if 0 < a then a else -a) :: st) μ 232 0) : Vc y own fr lo 0 0 G 232 Q pc lc (kL a :: st) μ 232 0 := by
  intro p l e s m args below meth c C H locs ls h1 h2 h3 h4
  have kk := k p l e s m args below meth c C H locs ls h1 h2 h3 h4
  obtain ⟨hx, hb, hml, hown, hts, hret, hlk, hnm, hT0, hS0, hsz⟩ := C
  have hroom : ((st.map (cv G)).map fun v => v.category).sum + 13 ≤ lo := by rw [cat_sum]; omega
  refine va_mabs_long (x := Int64.ofInt a) hx hb (hml.trans h3.1.symm) hown (ok_before hts m4.1) (ok_before hts m4.2.1) (ok_before hts m1) (ok_before hts m4.2.2) m2 hroom (by show 232 - 232 ≤ 0; omega) (Nat.le_refl _) hd ?_
  have e : (if 0 < Int64.ofInt a then Int64.ofInt a else -Int64.ofInt a) = Int64.ofInt (if 0 < a then a else -a) := by
    have h0 : (0 : Int64) = Int64.ofInt 0 := rfl
    rw [h0]
    simp only [n_llt (show r64 0 by unfold r64; omega) h]
    by_cases q : 0 < a
    · rw [if_pos q, if_pos q]
    · rw [if_neg q, if_neg q, n_lneg]
  rw [e]
  exact kk
theorem k_math {mt : List (Nat × Nat)} (hm : mtOK mt own fr lo) {idx k : Nat} (hk : mt.lookup idx = some k) (hd : decode y.2.1 pc = .ok (.invokestatic idx, 3)) {K : List AV → Prop} (hK : ∀ st, K st → Vc y own fr lo 0 0 G 232 Q (pc + 3) lc st μ 232 0) (h : mstp k st K) : Vc y own fr lo 0 0 G 232 Q pc lc st μ 232 0 := by
  obtain ⟨m1, m2, m3, m4⟩ := hm idx k (lk_mem' hk)
  unfold mstp at h
  split at h
  · split at h
    · rename_i hb
      exact k_mmin h.1 m1 m2 m3 m4 (Nat.le_of_ble_eq_true hb) hd (hK _ h.2)
    · exact h.elim
  · split at h
    · rename_i hb
      exact k_mmax h.1 m1 m2 m3 m4 (Nat.le_of_ble_eq_true hb) hd (hK _ h.2)
    · exact h.elim
  · split at h
    · rename_i hb
      exact k_mabs h.1 m1 m2 m3 m4 (Nat.le_of_ble_eq_true hb) hd (hK _ h.2)
    · exact h.elim
  · exact h.elim
theorem wpc2_sound {mt : List (Nat × Nat)} (hm : mtOK mt own fr lo) (hI : infOK I y own fr lo) {cuts : List (Nat × List Nat)} {K : Nat → List (Nat × AV) → List AV → Mem → Prop} (hK : ∀ pc lc st μ, Lk μ → K pc lc st μ → Vc y own fr lo 0 0 G 232 Q pc lc st μ 232 0) {Rt : Mem → Option AV → Prop} (hR : ∀ μ r, Lk μ → Rt μ r → Q μ r) : ∀ (f pc : Nat) (lc : List (Nat × AV)) (st : List AV) (μ : Mem), Lk μ → wpc2 mt I y cuts K Rt f pc lc st μ → Vc y own fr lo 0 0 G 232 Q pc lc st μ 232 0
  | 0, _, _, _, _, _, h => h.elim
  | f + 1, pc, lc, st, μ, hL, h => by
    unfold wpc2 at h
    split at h
    · exact h.elim
    · rename_i i hi
      have hcd := hI.1 _ _ (lk_mem' hi)
      have step : ∀ (pc : Nat) (lc : List (Nat × AV)) (st : List AV) (μ : Mem), Lk μ → (match cuts.lookup pc with
        | some ks => match nrml lc ks with
          | some lc' => K pc lc' st μ
          | none => False
        | none => wpc2 mt I y cuts K Rt f pc lc st μ) → Vc y own fr lo 0 0 G 232 Q pc lc st μ 232 0 := by
        intro pc lc st μ hL q
        split at q
        · split at q
          · rename_i hn
            exact (hK _ _ _ _ hL q).sub (nrml_ok _ hn)
          · exact q.elim
        · exact wpc2_sound hm hI hK hR f pc lc st μ hL q
      unfold stp2 at h
      split at h
      · rename_i idx
        split at h
        · rename_i k hk
          exact k_math hm hk (k14_len (n := 3) hcd (fun len q => by simpa [lenok] using q)) (fun st q => step _ _ _ _ hL q) h
        · exact stp_sound hI hL hcd step hR h
      · exact stp_sound hI hL hcd step hR h
end K20
theorem mt_nil {own : String} {fr lo : Nat} : mtOK [] own fr lo := fun _ _ h => by cases h
theorem mt_cons {own : String} {fr lo idx k : Nat} {l : List (Nat × Nat)} (h : Cond.initialized "java/lang/Math" ∈ lw_ok ∧ 1 ≤ fr ∧ 21 ≤ lo ∧ (match k with
  | 0 => Cond.methodLink own idx Lib.Math.min.name ∈ lw_ok ∧ Cond.static Lib.Math.min.name ∈ lw_ok ∧ Cond.code Lib.Math.min.name Lib.Math.min.code 2 (some .int) ∈ lw_ok
  | 1 => Cond.methodLink own idx Lib.Math.max.name ∈ lw_ok ∧ Cond.static Lib.Math.max.name ∈ lw_ok ∧ Cond.code Lib.Math.max.name Lib.Math.max.code 2 (some .int) ∈ lw_ok
  | _ => Cond.methodLink own idx Lib.MathLoose.abs_long.x ∈ lw_ok ∧ Cond.static Lib.MathLoose.abs_long.x ∈ lw_ok ∧ Cond.code Lib.MathLoose.abs_long.x Lib.MathLoose.abs_long.code 2 (some .long) ∈ lw_ok)) (t : mtOK l own fr lo) : mtOK ((idx, k) :: l) own fr lo := by
  intro i x hm
  rcases List.mem_cons.mp hm with q | q
  · cases q; exact h
  · exact t i x q
theorem vm_step2 {mt : List (Nat × Nat)} {I : Inf} {y : Mt} {own : String} {fr lo : Nat} (hm : mtOK mt own fr lo) (hI : infOK I y own fr lo) {R : Mem → Option AV → Prop} (cuts : List (Nat × List Nat)) (f : Nat) {pc : Nat} {lc : List (Nat × AV)} {st : List AV} {μ : Mem} (h : wpc2 mt I y cuts (VM y own fr lo R) R f pc lc st μ) : VM y own fr lo R pc lc st μ :=
  fun G Q hQ hL => wpc2_sound hm hI (K := VM y own fr lo R) (Rt := R) (fun _ _ _ _ hL k => k G Q hQ hL) hQ f pc lc st μ hL h
/-- a town's place among the objects -/
def towns : List Int := [4, 14, 24, 38, 48, 58, 71, 81, 91, 104, 114, 124, 135]
def isT (t : Int) : Prop := t ∈ towns
theorem isT_C {t : Int} (h : isT t) : isC t 7 := by
  have key : ∀ t ∈ towns, (0 ≤ t ∧ t < 232) ∧ LAY t.toNat = (17, 18) := by decide +kernel
  exact key t h
