/-! a method of the finished world: from here it returns, and R holds -/
def VM (y : Mt) (own : String) (fr lo : Nat) (R : Mem → Option AV → Prop) (pc : Nat) (lc : List (Nat × AV)) (st : List AV) (μ : Mem) : Prop := ∀ (G : Cxt) (Q : Mem → Option AV → Prop), (∀ μ r, Lk μ → R μ r → Q μ r) → Lk μ → Vc y own fr lo 0 0 G 232 Q pc lc st μ 232 0
theorem vm_lk {y : Mt} {own : String} {fr lo : Nat} {R : Mem → Option AV → Prop} {pc : Nat} {lc : List (Nat × AV)} {st : List AV} {μ : Mem} (h : Lk μ → VM y own fr lo R pc lc st μ) : VM y own fr lo R pc lc st μ := fun G Q hQ hL => h hL G Q hQ hL
theorem vm_step {I : Inf} {y : Mt} {own : String} {fr lo : Nat} (hI : infOK I y own fr lo) {R : Mem → Option AV → Prop} (cuts : List (Nat × List Nat)) (f : Nat) {pc : Nat} {lc : List (Nat × AV)} {st : List AV} {μ : Mem} (h : wpc I y cuts (VM y own fr lo R) R f pc lc st μ) : VM y own fr lo R pc lc st μ :=
  fun G Q hQ hL => wpc_sound hI (K := VM y own fr lo R) (Rt := R) (fun _ _ _ _ hL k => k G Q hQ hL) hQ f pc lc st μ hL h
theorem vm_post {y : Mt} {own : String} {fr lo : Nat} {R R' : Mem → Option AV → Prop} {pc : Nat} {lc : List (Nat × AV)} {st : List AV} {μ : Mem} (hR : ∀ μ r, R μ r → R' μ r) (h : VM y own fr lo R pc lc st μ) : VM y own fr lo R' pc lc st μ := fun G Q hQ hL => h G Q (fun μ r hL q => hQ μ r hL (hR μ r q)) hL
theorem ct_vm {y : Mt} {own : String} {fr lo : Nat} {S : S0t} (hn : plainName y.1.cls = true) (hown : own = y.1.cls) (hlen : ∀ (as : List AV) (μ : Mem) (Q : Mem → Option AV → Prop), S as μ Q → (as.map fun v => if v.1 = 1 then 2 else 1).sum ≤ y.2.2.1) (h : ∀ (as : List AV) (μ : Mem) (R : Mem → Option AV → Prop), S as μ R → VM y own fr lo R 0 (ent 0 as) [] μ) : Ct y fr lo 0 0 (nrmS S) :=
  ct_of hn hown (fun n as μ Q hS => hlen as μ _ hS.2.2) (fun G n as μ Q hS => by
    obtain ⟨rfl, hL, hS⟩ := hS
    exact h as μ _ hS G Q (fun μ r hL q => q hL) hL)
theorem c_nil {own : String} {fr lo : Nat} : ∀ idx e, (idx, e) ∈ ([] : List (Nat × CallE)) → callOK own fr lo idx e := fun _ _ h => by cases h
theorem c_cons {own : String} {fr lo idx : Nat} {e : CallE} {l : List (Nat × CallE)} (h : callOK own fr lo idx e) (t : ∀ idx e, (idx, e) ∈ l → callOK own fr lo idx e) : ∀ idx' e', (idx', e') ∈ (idx, e) :: l → callOK own fr lo idx' e' := by
  intro i x hm
  rcases List.mem_cons.mp hm with q | q
  · cases q; exact h
  · exact t i x q
/-- a town's place among the objects -/
def towns : List Int := [4, 14, 24, 38, 48, 58, 71, 81, 91, 104, 114, 124, 135]
def isT (t : Int) : Prop := t ∈ towns
theorem isT_C {t : Int} (h : isT t) : isC t 7 := by
  have key : ∀ t ∈ towns, (0 ≤ t ∧ t < 232) ∧ LAY t.toNat = (17, 18) := by decide +kernel
  exact key t h
