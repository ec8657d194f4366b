/-- how long each instruction is that stp knows -/
def lenok (i : Instr) (len : Nat) : Bool := match i with
  | .bipush _ => len == 2 | .sipush _ => len == 3 | .iload _ => len == 2 | .lload _ => len == 2 | .aload _ => len == 2
  | .istore _ => len == 2 | .lstore _ => len == 2 | .astore _ => len == 2 | .iinc _ _ => len == 3
  | .ifCond _ _ => len == 3 | .if_icmp _ _ => len == 3 | .ifnull _ => len == 3 | .ifnonnull _ => len == 3 | .goto _ => len == 3
  | .getfield _ => len == 3 | .putfield _ => len == 3 | .getstatic _ => len == 3 | .ldc _ => len == 2 | .ldc_w _ => len == 3 | .ldc2_w _ => len == 3
  | .invokevirtual _ => len == 3 | .invokestatic _ => len == 3 | .tableswitch _ _ _ _ => true
  | _ => len == 1
def irg (y : Mt) (pc : Nat) (i : Instr) : Bool := match i with
  | .bipush c => decide (-128 ≤ c ∧ c ≤ 127)
  | .sipush c => decide (-32768 ≤ c ∧ c ≤ 32767)
  | .istore_n i => decide (i.val < y.2.2.1)
  | .istore i => decide (i < y.2.2.1)
  | .astore_n i => decide (i.val < y.2.2.1)
  | .astore i => decide (i < y.2.2.1)
  | .lstore_n i => decide (i.val + 1 < y.2.2.1)
  | .lstore i => decide (i + 1 < y.2.2.1)
  | .iinc i _ => decide (i < y.2.2.1)
  | .ifCond _ off => decide (0 ≤ (pc : Int) + off)
  | .if_icmp _ off => decide (0 ≤ (pc : Int) + off)
  | .ifnull off => decide (0 ≤ (pc : Int) + off)
  | .ifnonnull off => decide (0 ≤ (pc : Int) + off)
  | .goto off => decide (0 ≤ (pc : Int) + off)
  | .tableswitch d lo hi offs => decide ((offs.size : Int) = hi - lo + 1) && decide (0 ≤ (pc : Int) + d) && offs.toList.all (fun o => decide (0 ≤ (pc : Int) + o))
  | .lreturn => y.2.2.2 == some .long
  | .areturn => match y.2.2.2 with
    | some (.object _) => true
    | _ => false
  | .return_ => y.2.2.2 == none
  | _ => true
def codeOK (y : Mt) (code : List (Nat × Instr)) : Prop := ∀ (pc : Nat) (i : Instr), (pc, i) ∈ code → ∃ len, decode y.2.1 pc = .ok (i, len) ∧ lenok i len = true ∧ irg y pc i = true
def Mono (S : S0t) : Prop := ∀ (as : List AV) (μ : Mem) (Q Q' : Mem → Option AV → Prop), (∀ μ' r, Q μ' r → Q' μ' r) → S as μ Q → S as μ Q'
def callOK (own : String) (fr lo idx : Nat) (e : CallE) : Prop := match e with
  | (0, na, ci, S) => ∃ (y' : Mt) (fr' lo' : Nat), Ct y' fr' lo' 0 0 (nrmS S) ∧ mOK y' na ∧ vOK y' ∧ lOK own idx y' ∧ (fr' + 1 ≤ fr ∧ 8 + (y'.2.2.1 + 11) + lo' ≤ lo) ∧ (∃ T N, vwCl[ci]? = some (y'.1.cls, T, N)) ∧ 0 < NF ci ∧ Mono S
  | (1, na, _, S) => ∃ (y' : Mt) (fr' lo' : Nat), Ct y' fr' lo' 0 0 (nrmS S) ∧ mOK y' na ∧ Cond.static y'.1 ∈ lw_ok ∧ lOK own idx y' ∧ (fr' + 1 ≤ fr ∧ 8 + (y'.2.2.1 + 11) + lo' ≤ lo) ∧ Mono S
  | (_, _, kd, _) => kd ≤ 2 ∧ Cond.methodLink own idx arraycopyName ∈ lw_ok ∧ Cond.native arraycopyName ∈ lw_ok ∧ Cond.static arraycopyName ∈ lw_ok ∧ Cond.initialized "java/lang/System" ∈ lw_ok ∧ 1 ≤ fr ∧ nativeFrameWords "java/lang/System" "arraycopy" 5 + 11 ≤ lo
def infOK (I : Inf) (y : Mt) (own : String) (fr lo : Nat) : Prop :=
  codeOK y I.1 ∧ (∀ idx ci f fz, (idx, ci, f, fz) ∈ I.2.1 → fOK own idx ci f ∧ f < NF ci ∧ fz = (f : Int)) ∧
  (∀ idx ci f fz, (idx, ci, f, fz) ∈ I.2.2.1 → pOK y own idx ci f ∧ f < NF ci ∧ fz = (f : Int) ∧ tgOf (TYS ci f) ≠ 2) ∧
  (∀ idx z, (idx, z) ∈ I.2.2.2.1 → Cond.constant own idx (Int32.ofInt z) ∈ lw_ok) ∧ (∀ idx z, (idx, z) ∈ I.2.2.2.2.1 → Cond.constantLong own idx (Int64.ofInt z) ∈ lw_ok) ∧
  (∀ idx k, (idx, k) ∈ I.2.2.2.2.2.1 → k < 8 ∧ (Cond.fieldLink own idx RX10 (SL k).1 (SL k).2.1 ∈ lw_ok ∨ ∃ host, Cond.fieldLinkNest own idx RX10 (SL k).1 (SL k).2.1 host ∈ lw_tbl)) ∧
  (∀ idx e, (idx, e) ∈ I.2.2.2.2.2.2 → callOK own fr lo idx e)
theorem lk_mem' {α : Type} {i : Nat} {v : α} : ∀ {l : List (Nat × α)}, l.lookup i = some v → (i, v) ∈ l
  | [], h => by simp at h
  | (j, w) :: t, h => by
    rw [List.lookup_cons] at h
    split at h
    · rename_i hij
      have e : i = j := by simpa using hij
      subst e
      cases h
      exact List.mem_cons_self
    · exact List.mem_cons_of_mem _ (lk_mem' h)
theorem kD_ok {pc : Nat} {off : Int} (h : decide (0 ≤ (pc : Int) + off) = true) : (pc : Int) + off = ((kD pc off : Nat) : Int) := by
  have h2 := of_decide_eq_true h
  unfold kD
  omega
theorem tsw_at {pc : Nat} {a : Int} {K : Nat → Prop} : ∀ (l : List Int) (lo : Int), tsw pc a lo l K → ∀ (j : Nat) (o : Int), l[j]? = some o → a = lo + j → K (kD pc o)
  | [], _, _, j, o, h, _ => by simp at h
  | x :: t, lo, ⟨h1, h2⟩, 0, o, h, e => by
    cases h
    exact h1 (by simpa using e)
  | x :: t, lo, ⟨h1, h2⟩, j + 1, o, h, e => tsw_at t (lo + 1) h2 j o h (by push_cast at e; omega)
section K14
variable {y : Mt} {own : String} {fr lo : Nat} {G : Cxt} {Q : Mem → Option AV → Prop} {pc : Nat} {lc : List (Nat × AV)} {st : List AV} {μ : Mem} {I : Inf}
theorem k14_len {i : Instr} {n : Nat} (hc : ∃ len, decode y.2.1 pc = .ok (i, len) ∧ lenok i len = true ∧ irg y pc i = true) (h : ∀ len, lenok i len = true → len = n) : decode y.2.1 pc = .ok (i, n) := by
  obtain ⟨len, h1, h2, -⟩ := hc
  rw [← h len h2]
  exact h1
abbrev VN (y : Mt) (own : String) (fr lo : Nat) (G : Cxt) (Q : Mem → Option AV → Prop) : Nat → List (Nat × AV) → List AV → Mem → Prop := fun pc lc st μ => Vc y own fr lo 0 0 G 232 Q pc lc st μ 232 0
theorem s_iconst {c : Int} (hI : infOK I y own fr lo) (hL : Lk μ) (hc : ∃ len, decode y.2.1 pc = .ok (.iconst c, len) ∧ lenok (.iconst c) len = true ∧ irg y pc (.iconst c) = true) {K : Nat → List (Nat × AV) → List AV → Mem → Prop} (hK : ∀ pc lc st μ, Lk μ → K pc lc st μ → Vc y own fr lo 0 0 G 232 Q pc lc st μ 232 0) {Rt : Mem → Option AV → Prop} (hR : ∀ μ r, Lk μ → Rt μ r → Q μ r) (h : stp I y (.iconst c) pc lc st μ K Rt) : Vc y own fr lo 0 0 G 232 Q pc lc st μ 232 0 := by
  have hg : irg y pc (.iconst c) = true := by obtain ⟨_, -, -, q⟩ := hc; exact q
  simp only [stp] at h
  exact k_iconst (k14_len (n := 1) hc (fun len q => by simpa [lenok] using q)) (hK _ _ _ _ hL h)
theorem s_bipush {c : Int} (hI : infOK I y own fr lo) (hL : Lk μ) (hc : ∃ len, decode y.2.1 pc = .ok (.bipush c, len) ∧ lenok (.bipush c) len = true ∧ irg y pc (.bipush c) = true) {K : Nat → List (Nat × AV) → List AV → Mem → Prop} (hK : ∀ pc lc st μ, Lk μ → K pc lc st μ → Vc y own fr lo 0 0 G 232 Q pc lc st μ 232 0) {Rt : Mem → Option AV → Prop} (hR : ∀ μ r, Lk μ → Rt μ r → Q μ r) (h : stp I y (.bipush c) pc lc st μ K Rt) : Vc y own fr lo 0 0 G 232 Q pc lc st μ 232 0 := by
  have hg : irg y pc (.bipush c) = true := by obtain ⟨_, -, -, q⟩ := hc; exact q
  simp only [stp] at h
  exact k_bipush (of_decide_eq_true hg) (k14_len (n := 2) hc (fun len q => by simpa [lenok] using q)) (hK _ _ _ _ hL h)
theorem s_sipush {c : Int} (hI : infOK I y own fr lo) (hL : Lk μ) (hc : ∃ len, decode y.2.1 pc = .ok (.sipush c, len) ∧ lenok (.sipush c) len = true ∧ irg y pc (.sipush c) = true) {K : Nat → List (Nat × AV) → List AV → Mem → Prop} (hK : ∀ pc lc st μ, Lk μ → K pc lc st μ → Vc y own fr lo 0 0 G 232 Q pc lc st μ 232 0) {Rt : Mem → Option AV → Prop} (hR : ∀ μ r, Lk μ → Rt μ r → Q μ r) (h : stp I y (.sipush c) pc lc st μ K Rt) : Vc y own fr lo 0 0 G 232 Q pc lc st μ 232 0 := by
  have hg : irg y pc (.sipush c) = true := by obtain ⟨_, -, -, q⟩ := hc; exact q
  simp only [stp] at h
  exact k_sipush (of_decide_eq_true hg) (k14_len (n := 3) hc (fun len q => by simpa [lenok] using q)) (hK _ _ _ _ hL h)
theorem s_lconst {d : Fin 2} (hI : infOK I y own fr lo) (hL : Lk μ) (hc : ∃ len, decode y.2.1 pc = .ok (.lconst d, len) ∧ lenok (.lconst d) len = true ∧ irg y pc (.lconst d) = true) {K : Nat → List (Nat × AV) → List AV → Mem → Prop} (hK : ∀ pc lc st μ, Lk μ → K pc lc st μ → Vc y own fr lo 0 0 G 232 Q pc lc st μ 232 0) {Rt : Mem → Option AV → Prop} (hR : ∀ μ r, Lk μ → Rt μ r → Q μ r) (h : stp I y (.lconst d) pc lc st μ K Rt) : Vc y own fr lo 0 0 G 232 Q pc lc st μ 232 0 := by
  have hg : irg y pc (.lconst d) = true := by obtain ⟨_, -, -, q⟩ := hc; exact q
  simp only [stp] at h
  exact k_lconst (k14_len (n := 1) hc (fun len q => by simpa [lenok] using q)) (hK _ _ _ _ hL h)
theorem s_null  (hI : infOK I y own fr lo) (hL : Lk μ) (hc : ∃ len, decode y.2.1 pc = .ok (.aconst_null, len) ∧ lenok (.aconst_null) len = true ∧ irg y pc (.aconst_null) = true) {K : Nat → List (Nat × AV) → List AV → Mem → Prop} (hK : ∀ pc lc st μ, Lk μ → K pc lc st μ → Vc y own fr lo 0 0 G 232 Q pc lc st μ 232 0) {Rt : Mem → Option AV → Prop} (hR : ∀ μ r, Lk μ → Rt μ r → Q μ r) (h : stp I y (.aconst_null) pc lc st μ K Rt) : Vc y own fr lo 0 0 G 232 Q pc lc st μ 232 0 := by
  have hg : irg y pc (.aconst_null) = true := by obtain ⟨_, -, -, q⟩ := hc; exact q
  simp only [stp] at h
  exact k_null (k14_len (n := 1) hc (fun len q => by simpa [lenok] using q)) (hK _ _ _ _ hL h)
theorem s_iload_n {i : Fin 4} (hI : infOK I y own fr lo) (hL : Lk μ) (hc : ∃ len, decode y.2.1 pc = .ok (.iload_n i, len) ∧ lenok (.iload_n i) len = true ∧ irg y pc (.iload_n i) = true) {K : Nat → List (Nat × AV) → List AV → Mem → Prop} (hK : ∀ pc lc st μ, Lk μ → K pc lc st μ → Vc y own fr lo 0 0 G 232 Q pc lc st μ 232 0) {Rt : Mem → Option AV → Prop} (hR : ∀ μ r, Lk μ → Rt μ r → Q μ r) (h : stp I y (.iload_n i) pc lc st μ K Rt) : Vc y own fr lo 0 0 G 232 Q pc lc st μ 232 0 := by
  have hg : irg y pc (.iload_n i) = true := by obtain ⟨_, -, -, q⟩ := hc; exact q
  simp only [stp] at h
  split at h
  · rename_i hl
    exact k_iload_n hl (k14_len (n := 1) hc (fun len q => by simpa [lenok] using q)) (hK _ _ _ _ hL h)
  · exact h.elim
theorem s_iload {i : Nat} (hI : infOK I y own fr lo) (hL : Lk μ) (hc : ∃ len, decode y.2.1 pc = .ok (.iload i, len) ∧ lenok (.iload i) len = true ∧ irg y pc (.iload i) = true) {K : Nat → List (Nat × AV) → List AV → Mem → Prop} (hK : ∀ pc lc st μ, Lk μ → K pc lc st μ → Vc y own fr lo 0 0 G 232 Q pc lc st μ 232 0) {Rt : Mem → Option AV → Prop} (hR : ∀ μ r, Lk μ → Rt μ r → Q μ r) (h : stp I y (.iload i) pc lc st μ K Rt) : Vc y own fr lo 0 0 G 232 Q pc lc st μ 232 0 := by
  have hg : irg y pc (.iload i) = true := by obtain ⟨_, -, -, q⟩ := hc; exact q
  simp only [stp] at h
  split at h
  · rename_i hl
    exact k_iload hl (k14_len (n := 2) hc (fun len q => by simpa [lenok] using q)) (hK _ _ _ _ hL h)
  · exact h.elim
theorem s_lload_n {i : Fin 4} (hI : infOK I y own fr lo) (hL : Lk μ) (hc : ∃ len, decode y.2.1 pc = .ok (.lload_n i, len) ∧ lenok (.lload_n i) len = true ∧ irg y pc (.lload_n i) = true) {K : Nat → List (Nat × AV) → List AV → Mem → Prop} (hK : ∀ pc lc st μ, Lk μ → K pc lc st μ → Vc y own fr lo 0 0 G 232 Q pc lc st μ 232 0) {Rt : Mem → Option AV → Prop} (hR : ∀ μ r, Lk μ → Rt μ r → Q μ r) (h : stp I y (.lload_n i) pc lc st μ K Rt) : Vc y own fr lo 0 0 G 232 Q pc lc st μ 232 0 := by
  have hg : irg y pc (.lload_n i) = true := by obtain ⟨_, -, -, q⟩ := hc; exact q
  simp only [stp] at h
  split at h
  · rename_i hl
    exact k_lload_n hl (k14_len (n := 1) hc (fun len q => by simpa [lenok] using q)) (hK _ _ _ _ hL h)
  · exact h.elim
theorem s_lload {i : Nat} (hI : infOK I y own fr lo) (hL : Lk μ) (hc : ∃ len, decode y.2.1 pc = .ok (.lload i, len) ∧ lenok (.lload i) len = true ∧ irg y pc (.lload i) = true) {K : Nat → List (Nat × AV) → List AV → Mem → Prop} (hK : ∀ pc lc st μ, Lk μ → K pc lc st μ → Vc y own fr lo 0 0 G 232 Q pc lc st μ 232 0) {Rt : Mem → Option AV → Prop} (hR : ∀ μ r, Lk μ → Rt μ r → Q μ r) (h : stp I y (.lload i) pc lc st μ K Rt) : Vc y own fr lo 0 0 G 232 Q pc lc st μ 232 0 := by
  have hg : irg y pc (.lload i) = true := by obtain ⟨_, -, -, q⟩ := hc; exact q
  simp only [stp] at h
  split at h
  · rename_i hl
    exact k_lload hl (k14_len (n := 2) hc (fun len q => by simpa [lenok] using q)) (hK _ _ _ _ hL h)
  · exact h.elim
theorem s_aload_n {i : Fin 4} (hI : infOK I y own fr lo) (hL : Lk μ) (hc : ∃ len, decode y.2.1 pc = .ok (.aload_n i, len) ∧ lenok (.aload_n i) len = true ∧ irg y pc (.aload_n i) = true) {K : Nat → List (Nat × AV) → List AV → Mem → Prop} (hK : ∀ pc lc st μ, Lk μ → K pc lc st μ → Vc y own fr lo 0 0 G 232 Q pc lc st μ 232 0) {Rt : Mem → Option AV → Prop} (hR : ∀ μ r, Lk μ → Rt μ r → Q μ r) (h : stp I y (.aload_n i) pc lc st μ K Rt) : Vc y own fr lo 0 0 G 232 Q pc lc st μ 232 0 := by
  have hg : irg y pc (.aload_n i) = true := by obtain ⟨_, -, -, q⟩ := hc; exact q
  simp only [stp] at h
  split at h
  · rename_i hl
    exact k_aload_n (by simp) hl (k14_len (n := 1) hc (fun len q => by simpa [lenok] using q)) (hK _ _ _ _ hL h)
  · exact h.elim
theorem s_aload {i : Nat} (hI : infOK I y own fr lo) (hL : Lk μ) (hc : ∃ len, decode y.2.1 pc = .ok (.aload i, len) ∧ lenok (.aload i) len = true ∧ irg y pc (.aload i) = true) {K : Nat → List (Nat × AV) → List AV → Mem → Prop} (hK : ∀ pc lc st μ, Lk μ → K pc lc st μ → Vc y own fr lo 0 0 G 232 Q pc lc st μ 232 0) {Rt : Mem → Option AV → Prop} (hR : ∀ μ r, Lk μ → Rt μ r → Q μ r) (h : stp I y (.aload i) pc lc st μ K Rt) : Vc y own fr lo 0 0 G 232 Q pc lc st μ 232 0 := by
  have hg : irg y pc (.aload i) = true := by obtain ⟨_, -, -, q⟩ := hc; exact q
  simp only [stp] at h
  split at h
  · rename_i hl
    exact k_aload (by simp) hl (k14_len (n := 2) hc (fun len q => by simpa [lenok] using q)) (hK _ _ _ _ hL h)
  · exact h.elim
theorem s_istore_n {i : Fin 4} (hI : infOK I y own fr lo) (hL : Lk μ) (hc : ∃ len, decode y.2.1 pc = .ok (.istore_n i, len) ∧ lenok (.istore_n i) len = true ∧ irg y pc (.istore_n i) = true) {K : Nat → List (Nat × AV) → List AV → Mem → Prop} (hK : ∀ pc lc st μ, Lk μ → K pc lc st μ → Vc y own fr lo 0 0 G 232 Q pc lc st μ 232 0) {Rt : Mem → Option AV → Prop} (hR : ∀ μ r, Lk μ → Rt μ r → Q μ r) (h : stp I y (.istore_n i) pc lc st μ K Rt) : Vc y own fr lo 0 0 G 232 Q pc lc st μ 232 0 := by
  have hg : irg y pc (.istore_n i) = true := by obtain ⟨_, -, -, q⟩ := hc; exact q
  simp only [stp] at h
  split at h
  · exact k_istore_n (of_decide_eq_true hg) (k14_len (n := 1) hc (fun len q => by simpa [lenok] using q)) (hK _ _ _ _ hL h)
  · exact h.elim
theorem s_istore {i : Nat} (hI : infOK I y own fr lo) (hL : Lk μ) (hc : ∃ len, decode y.2.1 pc = .ok (.istore i, len) ∧ lenok (.istore i) len = true ∧ irg y pc (.istore i) = true) {K : Nat → List (Nat × AV) → List AV → Mem → Prop} (hK : ∀ pc lc st μ, Lk μ → K pc lc st μ → Vc y own fr lo 0 0 G 232 Q pc lc st μ 232 0) {Rt : Mem → Option AV → Prop} (hR : ∀ μ r, Lk μ → Rt μ r → Q μ r) (h : stp I y (.istore i) pc lc st μ K Rt) : Vc y own fr lo 0 0 G 232 Q pc lc st μ 232 0 := by
  have hg : irg y pc (.istore i) = true := by obtain ⟨_, -, -, q⟩ := hc; exact q
  simp only [stp] at h
  split at h
  · exact k_istore (of_decide_eq_true hg) (k14_len (n := 2) hc (fun len q => by simpa [lenok] using q)) (hK _ _ _ _ hL h)
  · exact h.elim
theorem s_lstore_n {i : Fin 4} (hI : infOK I y own fr lo) (hL : Lk μ) (hc : ∃ len, decode y.2.1 pc = .ok (.lstore_n i, len) ∧ lenok (.lstore_n i) len = true ∧ irg y pc (.lstore_n i) = true) {K : Nat → List (Nat × AV) → List AV → Mem → Prop} (hK : ∀ pc lc st μ, Lk μ → K pc lc st μ → Vc y own fr lo 0 0 G 232 Q pc lc st μ 232 0) {Rt : Mem → Option AV → Prop} (hR : ∀ μ r, Lk μ → Rt μ r → Q μ r) (h : stp I y (.lstore_n i) pc lc st μ K Rt) : Vc y own fr lo 0 0 G 232 Q pc lc st μ 232 0 := by
  have hg : irg y pc (.lstore_n i) = true := by obtain ⟨_, -, -, q⟩ := hc; exact q
  simp only [stp] at h
  split at h
  · exact k_lstore_n (of_decide_eq_true hg) (k14_len (n := 1) hc (fun len q => by simpa [lenok] using q)) (hK _ _ _ _ hL h)
  · exact h.elim
theorem s_lstore {i : Nat} (hI : infOK I y own fr lo) (hL : Lk μ) (hc : ∃ len, decode y.2.1 pc = .ok (.lstore i, len) ∧ lenok (.lstore i) len = true ∧ irg y pc (.lstore i) = true) {K : Nat → List (Nat × AV) → List AV → Mem → Prop} (hK : ∀ pc lc st μ, Lk μ → K pc lc st μ → Vc y own fr lo 0 0 G 232 Q pc lc st μ 232 0) {Rt : Mem → Option AV → Prop} (hR : ∀ μ r, Lk μ → Rt μ r → Q μ r) (h : stp I y (.lstore i) pc lc st μ K Rt) : Vc y own fr lo 0 0 G 232 Q pc lc st μ 232 0 := by
  have hg : irg y pc (.lstore i) = true := by obtain ⟨_, -, -, q⟩ := hc; exact q
  simp only [stp] at h
  split at h
  · exact k_lstore (of_decide_eq_true hg) (k14_len (n := 2) hc (fun len q => by simpa [lenok] using q)) (hK _ _ _ _ hL h)
  · exact h.elim
theorem s_astore_n {i : Fin 4} (hI : infOK I y own fr lo) (hL : Lk μ) (hc : ∃ len, decode y.2.1 pc = .ok (.astore_n i, len) ∧ lenok (.astore_n i) len = true ∧ irg y pc (.astore_n i) = true) {K : Nat → List (Nat × AV) → List AV → Mem → Prop} (hK : ∀ pc lc st μ, Lk μ → K pc lc st μ → Vc y own fr lo 0 0 G 232 Q pc lc st μ 232 0) {Rt : Mem → Option AV → Prop} (hR : ∀ μ r, Lk μ → Rt μ r → Q μ r) (h : stp I y (.astore_n i) pc lc st μ K Rt) : Vc y own fr lo 0 0 G 232 Q pc lc st μ 232 0 := by
  have hg : irg y pc (.astore_n i) = true := by obtain ⟨_, -, -, q⟩ := hc; exact q
  simp only [stp] at h
  split at h
  · exact k_astore_n (by simp) (of_decide_eq_true hg) (k14_len (n := 1) hc (fun len q => by simpa [lenok] using q)) (hK _ _ _ _ hL h)
  · exact h.elim
theorem s_astore {i : Nat} (hI : infOK I y own fr lo) (hL : Lk μ) (hc : ∃ len, decode y.2.1 pc = .ok (.astore i, len) ∧ lenok (.astore i) len = true ∧ irg y pc (.astore i) = true) {K : Nat → List (Nat × AV) → List AV → Mem → Prop} (hK : ∀ pc lc st μ, Lk μ → K pc lc st μ → Vc y own fr lo 0 0 G 232 Q pc lc st μ 232 0) {Rt : Mem → Option AV → Prop} (hR : ∀ μ r, Lk μ → Rt μ r → Q μ r) (h : stp I y (.astore i) pc lc st μ K Rt) : Vc y own fr lo 0 0 G 232 Q pc lc st μ 232 0 := by
  have hg : irg y pc (.astore i) = true := by obtain ⟨_, -, -, q⟩ := hc; exact q
  simp only [stp] at h
  split at h
  · exact k_astore (by simp) (of_decide_eq_true hg) (k14_len (n := 2) hc (fun len q => by simpa [lenok] using q)) (hK _ _ _ _ hL h)
  · exact h.elim
theorem s_iinc {i : Nat} {c : Int} (hI : infOK I y own fr lo) (hL : Lk μ) (hc : ∃ len, decode y.2.1 pc = .ok (.iinc i c, len) ∧ lenok (.iinc i c) len = true ∧ irg y pc (.iinc i c) = true) {K : Nat → List (Nat × AV) → List AV → Mem → Prop} (hK : ∀ pc lc st μ, Lk μ → K pc lc st μ → Vc y own fr lo 0 0 G 232 Q pc lc st μ 232 0) {Rt : Mem → Option AV → Prop} (hR : ∀ μ r, Lk μ → Rt μ r → Q μ r) (h : stp I y (.iinc i c) pc lc st μ K Rt) : Vc y own fr lo 0 0 G 232 Q pc lc st μ 232 0 := by
  have hg : irg y pc (.iinc i c) = true := by obtain ⟨_, -, -, q⟩ := hc; exact q
  simp only [stp] at h
  split at h
  · rename_i hl
    exact k_iinc hl (of_decide_eq_true hg) (k14_len (n := 3) hc (fun len q => by simpa [lenok] using q)) (hK _ _ _ _ hL h)
  · exact h.elim
theorem s_iadd  (hI : infOK I y own fr lo) (hL : Lk μ) (hc : ∃ len, decode y.2.1 pc = .ok (.iadd, len) ∧ lenok (.iadd) len = true ∧ irg y pc (.iadd) = true) {K : Nat → List (Nat × AV) → List AV → Mem → Prop} (hK : ∀ pc lc st μ, Lk μ → K pc lc st μ → Vc y own fr lo 0 0 G 232 Q pc lc st μ 232 0) {Rt : Mem → Option AV → Prop} (hR : ∀ μ r, Lk μ → Rt μ r → Q μ r) (h : stp I y (.iadd) pc lc st μ K Rt) : Vc y own fr lo 0 0 G 232 Q pc lc st μ 232 0 := by
  have hg : irg y pc (.iadd) = true := by obtain ⟨_, -, -, q⟩ := hc; exact q
  simp only [stp] at h
  split at h
  · exact k_iadd (k14_len (n := 1) hc (fun len q => by simpa [lenok] using q)) (hK _ _ _ _ hL h)
  · exact h.elim
theorem s_isub  (hI : infOK I y own fr lo) (hL : Lk μ) (hc : ∃ len, decode y.2.1 pc = .ok (.isub, len) ∧ lenok (.isub) len = true ∧ irg y pc (.isub) = true) {K : Nat → List (Nat × AV) → List AV → Mem → Prop} (hK : ∀ pc lc st μ, Lk μ → K pc lc st μ → Vc y own fr lo 0 0 G 232 Q pc lc st μ 232 0) {Rt : Mem → Option AV → Prop} (hR : ∀ μ r, Lk μ → Rt μ r → Q μ r) (h : stp I y (.isub) pc lc st μ K Rt) : Vc y own fr lo 0 0 G 232 Q pc lc st μ 232 0 := by
  have hg : irg y pc (.isub) = true := by obtain ⟨_, -, -, q⟩ := hc; exact q
  simp only [stp] at h
  split at h
  · exact k_isub (k14_len (n := 1) hc (fun len q => by simpa [lenok] using q)) (hK _ _ _ _ hL h)
  · exact h.elim
theorem s_imul  (hI : infOK I y own fr lo) (hL : Lk μ) (hc : ∃ len, decode y.2.1 pc = .ok (.imul, len) ∧ lenok (.imul) len = true ∧ irg y pc (.imul) = true) {K : Nat → List (Nat × AV) → List AV → Mem → Prop} (hK : ∀ pc lc st μ, Lk μ → K pc lc st μ → Vc y own fr lo 0 0 G 232 Q pc lc st μ 232 0) {Rt : Mem → Option AV → Prop} (hR : ∀ μ r, Lk μ → Rt μ r → Q μ r) (h : stp I y (.imul) pc lc st μ K Rt) : Vc y own fr lo 0 0 G 232 Q pc lc st μ 232 0 := by
  have hg : irg y pc (.imul) = true := by obtain ⟨_, -, -, q⟩ := hc; exact q
  simp only [stp] at h
  split at h
  · exact k_imul (k14_len (n := 1) hc (fun len q => by simpa [lenok] using q)) (hK _ _ _ _ hL h)
  · exact h.elim
theorem s_iand  (hI : infOK I y own fr lo) (hL : Lk μ) (hc : ∃ len, decode y.2.1 pc = .ok (.iand, len) ∧ lenok (.iand) len = true ∧ irg y pc (.iand) = true) {K : Nat → List (Nat × AV) → List AV → Mem → Prop} (hK : ∀ pc lc st μ, Lk μ → K pc lc st μ → Vc y own fr lo 0 0 G 232 Q pc lc st μ 232 0) {Rt : Mem → Option AV → Prop} (hR : ∀ μ r, Lk μ → Rt μ r → Q μ r) (h : stp I y (.iand) pc lc st μ K Rt) : Vc y own fr lo 0 0 G 232 Q pc lc st μ 232 0 := by
  have hg : irg y pc (.iand) = true := by obtain ⟨_, -, -, q⟩ := hc; exact q
  simp only [stp] at h
  split at h
  · exact k_iand (k14_len (n := 1) hc (fun len q => by simpa [lenok] using q)) (hK _ _ _ _ hL h)
  · exact h.elim
theorem s_ior  (hI : infOK I y own fr lo) (hL : Lk μ) (hc : ∃ len, decode y.2.1 pc = .ok (.ior, len) ∧ lenok (.ior) len = true ∧ irg y pc (.ior) = true) {K : Nat → List (Nat × AV) → List AV → Mem → Prop} (hK : ∀ pc lc st μ, Lk μ → K pc lc st μ → Vc y own fr lo 0 0 G 232 Q pc lc st μ 232 0) {Rt : Mem → Option AV → Prop} (hR : ∀ μ r, Lk μ → Rt μ r → Q μ r) (h : stp I y (.ior) pc lc st μ K Rt) : Vc y own fr lo 0 0 G 232 Q pc lc st μ 232 0 := by
  have hg : irg y pc (.ior) = true := by obtain ⟨_, -, -, q⟩ := hc; exact q
  simp only [stp] at h
  split at h
  · exact k_ior (k14_len (n := 1) hc (fun len q => by simpa [lenok] using q)) (hK _ _ _ _ hL h)
  · exact h.elim
theorem s_ixor  (hI : infOK I y own fr lo) (hL : Lk μ) (hc : ∃ len, decode y.2.1 pc = .ok (.ixor, len) ∧ lenok (.ixor) len = true ∧ irg y pc (.ixor) = true) {K : Nat → List (Nat × AV) → List AV → Mem → Prop} (hK : ∀ pc lc st μ, Lk μ → K pc lc st μ → Vc y own fr lo 0 0 G 232 Q pc lc st μ 232 0) {Rt : Mem → Option AV → Prop} (hR : ∀ μ r, Lk μ → Rt μ r → Q μ r) (h : stp I y (.ixor) pc lc st μ K Rt) : Vc y own fr lo 0 0 G 232 Q pc lc st μ 232 0 := by
  have hg : irg y pc (.ixor) = true := by obtain ⟨_, -, -, q⟩ := hc; exact q
  simp only [stp] at h
  split at h
  · exact k_ixor (k14_len (n := 1) hc (fun len q => by simpa [lenok] using q)) (hK _ _ _ _ hL h)
  · exact h.elim
theorem s_ishl  (hI : infOK I y own fr lo) (hL : Lk μ) (hc : ∃ len, decode y.2.1 pc = .ok (.ishl, len) ∧ lenok (.ishl) len = true ∧ irg y pc (.ishl) = true) {K : Nat → List (Nat × AV) → List AV → Mem → Prop} (hK : ∀ pc lc st μ, Lk μ → K pc lc st μ → Vc y own fr lo 0 0 G 232 Q pc lc st μ 232 0) {Rt : Mem → Option AV → Prop} (hR : ∀ μ r, Lk μ → Rt μ r → Q μ r) (h : stp I y (.ishl) pc lc st μ K Rt) : Vc y own fr lo 0 0 G 232 Q pc lc st μ 232 0 := by
  have hg : irg y pc (.ishl) = true := by obtain ⟨_, -, -, q⟩ := hc; exact q
  simp only [stp] at h
  split at h
  · exact k_ishl (k14_len (n := 1) hc (fun len q => by simpa [lenok] using q)) (hK _ _ _ _ hL h)
  · exact h.elim
theorem s_ishr  (hI : infOK I y own fr lo) (hL : Lk μ) (hc : ∃ len, decode y.2.1 pc = .ok (.ishr, len) ∧ lenok (.ishr) len = true ∧ irg y pc (.ishr) = true) {K : Nat → List (Nat × AV) → List AV → Mem → Prop} (hK : ∀ pc lc st μ, Lk μ → K pc lc st μ → Vc y own fr lo 0 0 G 232 Q pc lc st μ 232 0) {Rt : Mem → Option AV → Prop} (hR : ∀ μ r, Lk μ → Rt μ r → Q μ r) (h : stp I y (.ishr) pc lc st μ K Rt) : Vc y own fr lo 0 0 G 232 Q pc lc st μ 232 0 := by
  have hg : irg y pc (.ishr) = true := by obtain ⟨_, -, -, q⟩ := hc; exact q
  simp only [stp] at h
  split at h
  · exact k_ishr (k14_len (n := 1) hc (fun len q => by simpa [lenok] using q)) (hK _ _ _ _ hL h)
  · exact h.elim
theorem s_iushr  (hI : infOK I y own fr lo) (hL : Lk μ) (hc : ∃ len, decode y.2.1 pc = .ok (.iushr, len) ∧ lenok (.iushr) len = true ∧ irg y pc (.iushr) = true) {K : Nat → List (Nat × AV) → List AV → Mem → Prop} (hK : ∀ pc lc st μ, Lk μ → K pc lc st μ → Vc y own fr lo 0 0 G 232 Q pc lc st μ 232 0) {Rt : Mem → Option AV → Prop} (hR : ∀ μ r, Lk μ → Rt μ r → Q μ r) (h : stp I y (.iushr) pc lc st μ K Rt) : Vc y own fr lo 0 0 G 232 Q pc lc st μ 232 0 := by
  have hg : irg y pc (.iushr) = true := by obtain ⟨_, -, -, q⟩ := hc; exact q
  simp only [stp] at h
  split at h
  · exact k_iushr (k14_len (n := 1) hc (fun len q => by simpa [lenok] using q)) (hK _ _ _ _ hL h)
  · exact h.elim
theorem s_ladd  (hI : infOK I y own fr lo) (hL : Lk μ) (hc : ∃ len, decode y.2.1 pc = .ok (.ladd, len) ∧ lenok (.ladd) len = true ∧ irg y pc (.ladd) = true) {K : Nat → List (Nat × AV) → List AV → Mem → Prop} (hK : ∀ pc lc st μ, Lk μ → K pc lc st μ → Vc y own fr lo 0 0 G 232 Q pc lc st μ 232 0) {Rt : Mem → Option AV → Prop} (hR : ∀ μ r, Lk μ → Rt μ r → Q μ r) (h : stp I y (.ladd) pc lc st μ K Rt) : Vc y own fr lo 0 0 G 232 Q pc lc st μ 232 0 := by
  have hg : irg y pc (.ladd) = true := by obtain ⟨_, -, -, q⟩ := hc; exact q
  simp only [stp] at h
  split at h
  · exact k_ladd (k14_len (n := 1) hc (fun len q => by simpa [lenok] using q)) (hK _ _ _ _ hL h)
  · exact h.elim
theorem s_lsub  (hI : infOK I y own fr lo) (hL : Lk μ) (hc : ∃ len, decode y.2.1 pc = .ok (.lsub, len) ∧ lenok (.lsub) len = true ∧ irg y pc (.lsub) = true) {K : Nat → List (Nat × AV) → List AV → Mem → Prop} (hK : ∀ pc lc st μ, Lk μ → K pc lc st μ → Vc y own fr lo 0 0 G 232 Q pc lc st μ 232 0) {Rt : Mem → Option AV → Prop} (hR : ∀ μ r, Lk μ → Rt μ r → Q μ r) (h : stp I y (.lsub) pc lc st μ K Rt) : Vc y own fr lo 0 0 G 232 Q pc lc st μ 232 0 := by
  have hg : irg y pc (.lsub) = true := by obtain ⟨_, -, -, q⟩ := hc; exact q
  simp only [stp] at h
  split at h
  · exact k_lsub (k14_len (n := 1) hc (fun len q => by simpa [lenok] using q)) (hK _ _ _ _ hL h)
  · exact h.elim
theorem s_lmul  (hI : infOK I y own fr lo) (hL : Lk μ) (hc : ∃ len, decode y.2.1 pc = .ok (.lmul, len) ∧ lenok (.lmul) len = true ∧ irg y pc (.lmul) = true) {K : Nat → List (Nat × AV) → List AV → Mem → Prop} (hK : ∀ pc lc st μ, Lk μ → K pc lc st μ → Vc y own fr lo 0 0 G 232 Q pc lc st μ 232 0) {Rt : Mem → Option AV → Prop} (hR : ∀ μ r, Lk μ → Rt μ r → Q μ r) (h : stp I y (.lmul) pc lc st μ K Rt) : Vc y own fr lo 0 0 G 232 Q pc lc st μ 232 0 := by
  have hg : irg y pc (.lmul) = true := by obtain ⟨_, -, -, q⟩ := hc; exact q
  simp only [stp] at h
  split at h
  · exact k_lmul (k14_len (n := 1) hc (fun len q => by simpa [lenok] using q)) (hK _ _ _ _ hL h)
  · exact h.elim
theorem s_lneg  (hI : infOK I y own fr lo) (hL : Lk μ) (hc : ∃ len, decode y.2.1 pc = .ok (.lneg, len) ∧ lenok (.lneg) len = true ∧ irg y pc (.lneg) = true) {K : Nat → List (Nat × AV) → List AV → Mem → Prop} (hK : ∀ pc lc st μ, Lk μ → K pc lc st μ → Vc y own fr lo 0 0 G 232 Q pc lc st μ 232 0) {Rt : Mem → Option AV → Prop} (hR : ∀ μ r, Lk μ → Rt μ r → Q μ r) (h : stp I y (.lneg) pc lc st μ K Rt) : Vc y own fr lo 0 0 G 232 Q pc lc st μ 232 0 := by
  have hg : irg y pc (.lneg) = true := by obtain ⟨_, -, -, q⟩ := hc; exact q
  simp only [stp] at h
  split at h
  · exact k_lneg (k14_len (n := 1) hc (fun len q => by simpa [lenok] using q)) (hK _ _ _ _ hL h)
  · exact h.elim
theorem s_i2b  (hI : infOK I y own fr lo) (hL : Lk μ) (hc : ∃ len, decode y.2.1 pc = .ok (.i2b, len) ∧ lenok (.i2b) len = true ∧ irg y pc (.i2b) = true) {K : Nat → List (Nat × AV) → List AV → Mem → Prop} (hK : ∀ pc lc st μ, Lk μ → K pc lc st μ → Vc y own fr lo 0 0 G 232 Q pc lc st μ 232 0) {Rt : Mem → Option AV → Prop} (hR : ∀ μ r, Lk μ → Rt μ r → Q μ r) (h : stp I y (.i2b) pc lc st μ K Rt) : Vc y own fr lo 0 0 G 232 Q pc lc st μ 232 0 := by
  have hg : irg y pc (.i2b) = true := by obtain ⟨_, -, -, q⟩ := hc; exact q
  simp only [stp] at h
  split at h
  · exact k_i2b (k14_len (n := 1) hc (fun len q => by simpa [lenok] using q)) (hK _ _ _ _ hL h)
  · exact h.elim
theorem s_idiv  (hI : infOK I y own fr lo) (hL : Lk μ) (hc : ∃ len, decode y.2.1 pc = .ok (.idiv, len) ∧ lenok (.idiv) len = true ∧ irg y pc (.idiv) = true) {K : Nat → List (Nat × AV) → List AV → Mem → Prop} (hK : ∀ pc lc st μ, Lk μ → K pc lc st μ → Vc y own fr lo 0 0 G 232 Q pc lc st μ 232 0) {Rt : Mem → Option AV → Prop} (hR : ∀ μ r, Lk μ → Rt μ r → Q μ r) (h : stp I y (.idiv) pc lc st μ K Rt) : Vc y own fr lo 0 0 G 232 Q pc lc st μ 232 0 := by
  have hg : irg y pc (.idiv) = true := by obtain ⟨_, -, -, q⟩ := hc; exact q
  simp only [stp] at h
  split at h
  · exact k_idiv h.1.1 h.1.2.1 h.1.2.2 (k14_len (n := 1) hc (fun len q => by simpa [lenok] using q)) (hK _ _ _ _ hL h.2)
  · exact h.elim
theorem s_irem  (hI : infOK I y own fr lo) (hL : Lk μ) (hc : ∃ len, decode y.2.1 pc = .ok (.irem, len) ∧ lenok (.irem) len = true ∧ irg y pc (.irem) = true) {K : Nat → List (Nat × AV) → List AV → Mem → Prop} (hK : ∀ pc lc st μ, Lk μ → K pc lc st μ → Vc y own fr lo 0 0 G 232 Q pc lc st μ 232 0) {Rt : Mem → Option AV → Prop} (hR : ∀ μ r, Lk μ → Rt μ r → Q μ r) (h : stp I y (.irem) pc lc st μ K Rt) : Vc y own fr lo 0 0 G 232 Q pc lc st μ 232 0 := by
  have hg : irg y pc (.irem) = true := by obtain ⟨_, -, -, q⟩ := hc; exact q
  simp only [stp] at h
  split at h
  · exact k_irem h.1.1 h.1.2.1 h.1.2.2 (k14_len (n := 1) hc (fun len q => by simpa [lenok] using q)) (hK _ _ _ _ hL h.2)
  · exact h.elim
theorem s_ldiv  (hI : infOK I y own fr lo) (hL : Lk μ) (hc : ∃ len, decode y.2.1 pc = .ok (.ldiv, len) ∧ lenok (.ldiv) len = true ∧ irg y pc (.ldiv) = true) {K : Nat → List (Nat × AV) → List AV → Mem → Prop} (hK : ∀ pc lc st μ, Lk μ → K pc lc st μ → Vc y own fr lo 0 0 G 232 Q pc lc st μ 232 0) {Rt : Mem → Option AV → Prop} (hR : ∀ μ r, Lk μ → Rt μ r → Q μ r) (h : stp I y (.ldiv) pc lc st μ K Rt) : Vc y own fr lo 0 0 G 232 Q pc lc st μ 232 0 := by
  have hg : irg y pc (.ldiv) = true := by obtain ⟨_, -, -, q⟩ := hc; exact q
  simp only [stp] at h
  split at h
  · exact k_ldiv h.1.1 h.1.2.1 h.1.2.2 (k14_len (n := 1) hc (fun len q => by simpa [lenok] using q)) (hK _ _ _ _ hL h.2)
  · exact h.elim
theorem s_lrem  (hI : infOK I y own fr lo) (hL : Lk μ) (hc : ∃ len, decode y.2.1 pc = .ok (.lrem, len) ∧ lenok (.lrem) len = true ∧ irg y pc (.lrem) = true) {K : Nat → List (Nat × AV) → List AV → Mem → Prop} (hK : ∀ pc lc st μ, Lk μ → K pc lc st μ → Vc y own fr lo 0 0 G 232 Q pc lc st μ 232 0) {Rt : Mem → Option AV → Prop} (hR : ∀ μ r, Lk μ → Rt μ r → Q μ r) (h : stp I y (.lrem) pc lc st μ K Rt) : Vc y own fr lo 0 0 G 232 Q pc lc st μ 232 0 := by
  have hg : irg y pc (.lrem) = true := by obtain ⟨_, -, -, q⟩ := hc; exact q
  simp only [stp] at h
  split at h
  · exact k_lrem h.1.1 h.1.2.1 h.1.2.2 (k14_len (n := 1) hc (fun len q => by simpa [lenok] using q)) (hK _ _ _ _ hL h.2)
  · exact h.elim
theorem s_i2l  (hI : infOK I y own fr lo) (hL : Lk μ) (hc : ∃ len, decode y.2.1 pc = .ok (.i2l, len) ∧ lenok (.i2l) len = true ∧ irg y pc (.i2l) = true) {K : Nat → List (Nat × AV) → List AV → Mem → Prop} (hK : ∀ pc lc st μ, Lk μ → K pc lc st μ → Vc y own fr lo 0 0 G 232 Q pc lc st μ 232 0) {Rt : Mem → Option AV → Prop} (hR : ∀ μ r, Lk μ → Rt μ r → Q μ r) (h : stp I y (.i2l) pc lc st μ K Rt) : Vc y own fr lo 0 0 G 232 Q pc lc st μ 232 0 := by
  have hg : irg y pc (.i2l) = true := by obtain ⟨_, -, -, q⟩ := hc; exact q
  simp only [stp] at h
  split at h
  · exact k_i2l h.1 (k14_len (n := 1) hc (fun len q => by simpa [lenok] using q)) (hK _ _ _ _ hL h.2)
  · exact h.elim
theorem s_lcmp  (hI : infOK I y own fr lo) (hL : Lk μ) (hc : ∃ len, decode y.2.1 pc = .ok (.lcmp, len) ∧ lenok (.lcmp) len = true ∧ irg y pc (.lcmp) = true) {K : Nat → List (Nat × AV) → List AV → Mem → Prop} (hK : ∀ pc lc st μ, Lk μ → K pc lc st μ → Vc y own fr lo 0 0 G 232 Q pc lc st μ 232 0) {Rt : Mem → Option AV → Prop} (hR : ∀ μ r, Lk μ → Rt μ r → Q μ r) (h : stp I y (.lcmp) pc lc st μ K Rt) : Vc y own fr lo 0 0 G 232 Q pc lc st μ 232 0 := by
  have hg : irg y pc (.lcmp) = true := by obtain ⟨_, -, -, q⟩ := hc; exact q
  simp only [stp] at h
  split at h
  · exact k_lcmp h.1.1 h.1.2 (k14_len (n := 1) hc (fun len q => by simpa [lenok] using q)) (hK _ _ _ _ hL h.2)
  · exact h.elim
theorem s_dup  (hI : infOK I y own fr lo) (hL : Lk μ) (hc : ∃ len, decode y.2.1 pc = .ok (.dup, len) ∧ lenok (.dup) len = true ∧ irg y pc (.dup) = true) {K : Nat → List (Nat × AV) → List AV → Mem → Prop} (hK : ∀ pc lc st μ, Lk μ → K pc lc st μ → Vc y own fr lo 0 0 G 232 Q pc lc st μ 232 0) {Rt : Mem → Option AV → Prop} (hR : ∀ μ r, Lk μ → Rt μ r → Q μ r) (h : stp I y (.dup) pc lc st μ K Rt) : Vc y own fr lo 0 0 G 232 Q pc lc st μ 232 0 := by
  have hg : irg y pc (.dup) = true := by obtain ⟨_, -, -, q⟩ := hc; exact q
  simp only [stp] at h
  split at h
  · exact k_dup (by simp) (k14_len (n := 1) hc (fun len q => by simpa [lenok] using q)) (hK _ _ _ _ hL h)
  · exact k_dup (by simp) (k14_len (n := 1) hc (fun len q => by simpa [lenok] using q)) (hK _ _ _ _ hL h)
  · exact h.elim
theorem s_dup2  (hI : infOK I y own fr lo) (hL : Lk μ) (hc : ∃ len, decode y.2.1 pc = .ok (.dup2, len) ∧ lenok (.dup2) len = true ∧ irg y pc (.dup2) = true) {K : Nat → List (Nat × AV) → List AV → Mem → Prop} (hK : ∀ pc lc st μ, Lk μ → K pc lc st μ → Vc y own fr lo 0 0 G 232 Q pc lc st μ 232 0) {Rt : Mem → Option AV → Prop} (hR : ∀ μ r, Lk μ → Rt μ r → Q μ r) (h : stp I y (.dup2) pc lc st μ K Rt) : Vc y own fr lo 0 0 G 232 Q pc lc st μ 232 0 := by
  have hg : irg y pc (.dup2) = true := by obtain ⟨_, -, -, q⟩ := hc; exact q
  simp only [stp] at h
  split at h
  · exact k_dup2 (by simp) (by simp) (k14_len (n := 1) hc (fun len q => by simpa [lenok] using q)) (hK _ _ _ _ hL h)
  · exact k_dup2 (by simp) (by simp) (k14_len (n := 1) hc (fun len q => by simpa [lenok] using q)) (hK _ _ _ _ hL h)
  · exact k_dup2_2 rfl (k14_len (n := 1) hc (fun len q => by simpa [lenok] using q)) (hK _ _ _ _ hL h)
  · exact h.elim
theorem s_ifCond {c : Jvm.ClassFile.Cond} {off : Int} (hI : infOK I y own fr lo) (hL : Lk μ) (hc : ∃ len, decode y.2.1 pc = .ok (.ifCond c off, len) ∧ lenok (.ifCond c off) len = true ∧ irg y pc (.ifCond c off) = true) {K : Nat → List (Nat × AV) → List AV → Mem → Prop} (hK : ∀ pc lc st μ, Lk μ → K pc lc st μ → Vc y own fr lo 0 0 G 232 Q pc lc st μ 232 0) {Rt : Mem → Option AV → Prop} (hR : ∀ μ r, Lk μ → Rt μ r → Q μ r) (h : stp I y (.ifCond c off) pc lc st μ K Rt) : Vc y own fr lo 0 0 G 232 Q pc lc st μ 232 0 := by
  have hg : irg y pc (.ifCond c off) = true := by obtain ⟨_, -, -, q⟩ := hc; exact q
  simp only [stp] at h
  split at h
  · cases c with
    | eq => exact k_if_eq h.1 (kD_ok hg) (k14_len (n := 3) hc (fun len q => by simpa [lenok] using q)) (fun q => hK _ _ _ _ hL (h.2.1 q)) (fun q => hK _ _ _ _ hL (h.2.2 q))
    | ne => exact k_if_ne h.1 (kD_ok hg) (k14_len (n := 3) hc (fun len q => by simpa [lenok] using q)) (fun q => hK _ _ _ _ hL (h.2.1 q)) (fun q => hK _ _ _ _ hL (h.2.2 q))
    | lt => exact k_if_lt h.1 (kD_ok hg) (k14_len (n := 3) hc (fun len q => by simpa [lenok] using q)) (fun q => hK _ _ _ _ hL (h.2.1 q)) (fun q => hK _ _ _ _ hL (h.2.2 q))
    | ge => exact k_if_ge h.1 (kD_ok hg) (k14_len (n := 3) hc (fun len q => by simpa [lenok] using q)) (fun q => hK _ _ _ _ hL (h.2.1 q)) (fun q => hK _ _ _ _ hL (h.2.2 q))
    | gt => exact k_if_gt h.1 (kD_ok hg) (k14_len (n := 3) hc (fun len q => by simpa [lenok] using q)) (fun q => hK _ _ _ _ hL (h.2.1 q)) (fun q => hK _ _ _ _ hL (h.2.2 q))
    | le => exact k_if_le h.1 (kD_ok hg) (k14_len (n := 3) hc (fun len q => by simpa [lenok] using q)) (fun q => hK _ _ _ _ hL (h.2.1 q)) (fun q => hK _ _ _ _ hL (h.2.2 q))
  · exact h.elim
theorem s_if_icmp {c : Jvm.ClassFile.Cond} {off : Int} (hI : infOK I y own fr lo) (hL : Lk μ) (hc : ∃ len, decode y.2.1 pc = .ok (.if_icmp c off, len) ∧ lenok (.if_icmp c off) len = true ∧ irg y pc (.if_icmp c off) = true) {K : Nat → List (Nat × AV) → List AV → Mem → Prop} (hK : ∀ pc lc st μ, Lk μ → K pc lc st μ → Vc y own fr lo 0 0 G 232 Q pc lc st μ 232 0) {Rt : Mem → Option AV → Prop} (hR : ∀ μ r, Lk μ → Rt μ r → Q μ r) (h : stp I y (.if_icmp c off) pc lc st μ K Rt) : Vc y own fr lo 0 0 G 232 Q pc lc st μ 232 0 := by
  have hg : irg y pc (.if_icmp c off) = true := by obtain ⟨_, -, -, q⟩ := hc; exact q
  simp only [stp] at h
  split at h
  · cases c with
    | eq => exact k_icmp_eq h.1.1 h.1.2 (kD_ok hg) (k14_len (n := 3) hc (fun len q => by simpa [lenok] using q)) (fun q => hK _ _ _ _ hL (h.2.1 q)) (fun q => hK _ _ _ _ hL (h.2.2 q))
    | ne => exact k_icmp_ne h.1.1 h.1.2 (kD_ok hg) (k14_len (n := 3) hc (fun len q => by simpa [lenok] using q)) (fun q => hK _ _ _ _ hL (h.2.1 q)) (fun q => hK _ _ _ _ hL (h.2.2 q))
    | lt => exact k_icmp_lt h.1.1 h.1.2 (kD_ok hg) (k14_len (n := 3) hc (fun len q => by simpa [lenok] using q)) (fun q => hK _ _ _ _ hL (h.2.1 q)) (fun q => hK _ _ _ _ hL (h.2.2 q))
    | ge => exact k_icmp_ge h.1.1 h.1.2 (kD_ok hg) (k14_len (n := 3) hc (fun len q => by simpa [lenok] using q)) (fun q => hK _ _ _ _ hL (h.2.1 q)) (fun q => hK _ _ _ _ hL (h.2.2 q))
    | gt => exact k_icmp_gt h.1.1 h.1.2 (kD_ok hg) (k14_len (n := 3) hc (fun len q => by simpa [lenok] using q)) (fun q => hK _ _ _ _ hL (h.2.1 q)) (fun q => hK _ _ _ _ hL (h.2.2 q))
    | le => exact k_icmp_le h.1.1 h.1.2 (kD_ok hg) (k14_len (n := 3) hc (fun len q => by simpa [lenok] using q)) (fun q => hK _ _ _ _ hL (h.2.1 q)) (fun q => hK _ _ _ _ hL (h.2.2 q))
  · exact h.elim
theorem s_ifnull {off : Int} (hI : infOK I y own fr lo) (hL : Lk μ) (hc : ∃ len, decode y.2.1 pc = .ok (.ifnull off, len) ∧ lenok (.ifnull off) len = true ∧ irg y pc (.ifnull off) = true) {K : Nat → List (Nat × AV) → List AV → Mem → Prop} (hK : ∀ pc lc st μ, Lk μ → K pc lc st μ → Vc y own fr lo 0 0 G 232 Q pc lc st μ 232 0) {Rt : Mem → Option AV → Prop} (hR : ∀ μ r, Lk μ → Rt μ r → Q μ r) (h : stp I y (.ifnull off) pc lc st μ K Rt) : Vc y own fr lo 0 0 G 232 Q pc lc st μ 232 0 := by
  have hg : irg y pc (.ifnull off) = true := by obtain ⟨_, -, -, q⟩ := hc; exact q
  simp only [stp] at h
  split at h
  · exact k_ifnull (kD_ok hg) (k14_len (n := 3) hc (fun len q => by simpa [lenok] using q)) (fun q => hK _ _ _ _ hL (h.1 q)) (fun q => hK _ _ _ _ hL (h.2 q))
  · exact h.elim
theorem s_ifnonnull {off : Int} (hI : infOK I y own fr lo) (hL : Lk μ) (hc : ∃ len, decode y.2.1 pc = .ok (.ifnonnull off, len) ∧ lenok (.ifnonnull off) len = true ∧ irg y pc (.ifnonnull off) = true) {K : Nat → List (Nat × AV) → List AV → Mem → Prop} (hK : ∀ pc lc st μ, Lk μ → K pc lc st μ → Vc y own fr lo 0 0 G 232 Q pc lc st μ 232 0) {Rt : Mem → Option AV → Prop} (hR : ∀ μ r, Lk μ → Rt μ r → Q μ r) (h : stp I y (.ifnonnull off) pc lc st μ K Rt) : Vc y own fr lo 0 0 G 232 Q pc lc st μ 232 0 := by
  have hg : irg y pc (.ifnonnull off) = true := by obtain ⟨_, -, -, q⟩ := hc; exact q
  simp only [stp] at h
  split at h
  · exact k_ifnonnull (kD_ok hg) (k14_len (n := 3) hc (fun len q => by simpa [lenok] using q)) (fun q => hK _ _ _ _ hL (h.1 q)) (fun q => hK _ _ _ _ hL (h.2 q))
  · exact h.elim
theorem s_goto {off : Int} (hI : infOK I y own fr lo) (hL : Lk μ) (hc : ∃ len, decode y.2.1 pc = .ok (.goto off, len) ∧ lenok (.goto off) len = true ∧ irg y pc (.goto off) = true) {K : Nat → List (Nat × AV) → List AV → Mem → Prop} (hK : ∀ pc lc st μ, Lk μ → K pc lc st μ → Vc y own fr lo 0 0 G 232 Q pc lc st μ 232 0) {Rt : Mem → Option AV → Prop} (hR : ∀ μ r, Lk μ → Rt μ r → Q μ r) (h : stp I y (.goto off) pc lc st μ K Rt) : Vc y own fr lo 0 0 G 232 Q pc lc st μ 232 0 := by
  have hg : irg y pc (.goto off) = true := by obtain ⟨_, -, -, q⟩ := hc; exact q
  simp only [stp] at h
  exact k_goto (kD_ok hg) (k14_len (n := 3) hc (fun len q => by simpa [lenok] using q)) (hK _ _ _ _ hL h)
theorem s_tswitch {d l1 hi : Int} {offs : Array Int} (hI : infOK I y own fr lo) (hL : Lk μ) (hc : ∃ len, decode y.2.1 pc = .ok (.tableswitch d l1 hi offs, len) ∧ lenok (.tableswitch d l1 hi offs) len = true ∧ irg y pc (.tableswitch d l1 hi offs) = true) {K : Nat → List (Nat × AV) → List AV → Mem → Prop} (hK : ∀ pc lc st μ, Lk μ → K pc lc st μ → Vc y own fr lo 0 0 G 232 Q pc lc st μ 232 0) {Rt : Mem → Option AV → Prop} (hR : ∀ μ r, Lk μ → Rt μ r → Q μ r) (h : stp I y (.tableswitch d l1 hi offs) pc lc st μ K Rt) : Vc y own fr lo 0 0 G 232 Q pc lc st μ 232 0 := by
  have hg : irg y pc (.tableswitch d l1 hi offs) = true := by obtain ⟨_, -, -, q⟩ := hc; exact q
  simp only [stp] at h
  split at h
  · obtain ⟨len, hdec, -, -⟩ := hc
    simp only [irg, Bool.and_eq_true, decide_eq_true_eq, List.all_eq_true] at hg
    exact k_tswitch h.1 hg.1.1 hg.1.2 (fun o ho => hg.2 o ho) hdec (fun q => hK _ _ _ _ hL (h.2.1 q)) (fun j o ho e => hK _ _ _ _ hL (tsw_at _ _ h.2.2 j o ho e))
  · exact h.elim
theorem s_getfield {idx : Nat} (hI : infOK I y own fr lo) (hL : Lk μ) (hc : ∃ len, decode y.2.1 pc = .ok (.getfield idx, len) ∧ lenok (.getfield idx) len = true ∧ irg y pc (.getfield idx) = true) {K : Nat → List (Nat × AV) → List AV → Mem → Prop} (hK : ∀ pc lc st μ, Lk μ → K pc lc st μ → Vc y own fr lo 0 0 G 232 Q pc lc st μ 232 0) {Rt : Mem → Option AV → Prop} (hR : ∀ μ r, Lk μ → Rt μ r → Q μ r) (h : stp I y (.getfield idx) pc lc st μ K Rt) : Vc y own fr lo 0 0 G 232 Q pc lc st μ 232 0 := by
  have hg : irg y pc (.getfield idx) = true := by obtain ⟨_, -, -, q⟩ := hc; exact q
  simp only [stp] at h
  split at h
  · rename_i hl
    obtain ⟨f1, f2, f3⟩ := hI.2.1 _ _ _ _ (lk_mem' hl)
    subst f3
    refine k_getfield f1 (h.1.at f2) (k14_len (n := 3) hc (fun len q => by simpa [lenok] using q)) ?_
    rename_i z st ci f fz
    rw [Int.toNat_of_nonneg h.1.1.1]
    have h2 := h.2
    split at h2
    · rename_i ht
      rw [ht, hL.1 _ _ _ h.1 f2 ht]
      exact hK _ _ _ _ hL h2
    · exact hK _ _ _ _ hL h2
  · exact h.elim
theorem s_putfield {idx : Nat} (hI : infOK I y own fr lo) (hL : Lk μ) (hc : ∃ len, decode y.2.1 pc = .ok (.putfield idx, len) ∧ lenok (.putfield idx) len = true ∧ irg y pc (.putfield idx) = true) {K : Nat → List (Nat × AV) → List AV → Mem → Prop} (hK : ∀ pc lc st μ, Lk μ → K pc lc st μ → Vc y own fr lo 0 0 G 232 Q pc lc st μ 232 0) {Rt : Mem → Option AV → Prop} (hR : ∀ μ r, Lk μ → Rt μ r → Q μ r) (h : stp I y (.putfield idx) pc lc st μ K Rt) : Vc y own fr lo 0 0 G 232 Q pc lc st μ 232 0 := by
  have hg : irg y pc (.putfield idx) = true := by obtain ⟨_, -, -, q⟩ := hc; exact q
  simp only [stp] at h
  split at h
  · rename_i hl
    obtain ⟨f1, f2, f3, f4⟩ := hI.2.2.1 _ _ _ _ (lk_mem' hl)
    obtain ⟨g1, g2, g3, g4⟩ := h
    subst f3
    subst g2
    refine k_putfield f1 (g1.at f2) g3 (k14_len (n := 3) hc (fun len q => by simpa [lenok] using q)) ?_
    rw [Int.toNat_of_nonneg g1.1.1]
    exact hK _ _ _ _ (hL.put g1 f4) g4
  · exact h.elim
theorem s_getstatic {idx : Nat} (hI : infOK I y own fr lo) (hL : Lk μ) (hc : ∃ len, decode y.2.1 pc = .ok (.getstatic idx, len) ∧ lenok (.getstatic idx) len = true ∧ irg y pc (.getstatic idx) = true) {K : Nat → List (Nat × AV) → List AV → Mem → Prop} (hK : ∀ pc lc st μ, Lk μ → K pc lc st μ → Vc y own fr lo 0 0 G 232 Q pc lc st μ 232 0) {Rt : Mem → Option AV → Prop} (hR : ∀ μ r, Lk μ → Rt μ r → Q μ r) (h : stp I y (.getstatic idx) pc lc st μ K Rt) : Vc y own fr lo 0 0 G 232 Q pc lc st μ 232 0 := by
  have hg : irg y pc (.getstatic idx) = true := by obtain ⟨_, -, -, q⟩ := hc; exact q
  simp only [stp] at h
  split at h
  · rename_i hl
    obtain ⟨f1, f2⟩ := hI.2.2.2.2.2.1 _ _ (lk_mem' hl)
    exact k_getstatic f1 f2 (k14_len (n := 3) hc (fun len q => by simpa [lenok] using q)) (hK _ _ _ _ hL h)
  · exact h.elim
theorem s_ldc {idx : Nat} (hI : infOK I y own fr lo) (hL : Lk μ) (hc : ∃ len, decode y.2.1 pc = .ok (.ldc idx, len) ∧ lenok (.ldc idx) len = true ∧ irg y pc (.ldc idx) = true) {K : Nat → List (Nat × AV) → List AV → Mem → Prop} (hK : ∀ pc lc st μ, Lk μ → K pc lc st μ → Vc y own fr lo 0 0 G 232 Q pc lc st μ 232 0) {Rt : Mem → Option AV → Prop} (hR : ∀ μ r, Lk μ → Rt μ r → Q μ r) (h : stp I y (.ldc idx) pc lc st μ K Rt) : Vc y own fr lo 0 0 G 232 Q pc lc st μ 232 0 := by
  have hg : irg y pc (.ldc idx) = true := by obtain ⟨_, -, -, q⟩ := hc; exact q
  simp only [stp] at h
  split at h
  · rename_i hl
    exact k_ldc (hI.2.2.2.1 _ _ (lk_mem' hl)) (k14_len (n := 2) hc (fun len q => by simpa [lenok] using q)) (hK _ _ _ _ hL h)
  · exact h.elim
theorem s_ldc_w {idx : Nat} (hI : infOK I y own fr lo) (hL : Lk μ) (hc : ∃ len, decode y.2.1 pc = .ok (.ldc_w idx, len) ∧ lenok (.ldc_w idx) len = true ∧ irg y pc (.ldc_w idx) = true) {K : Nat → List (Nat × AV) → List AV → Mem → Prop} (hK : ∀ pc lc st μ, Lk μ → K pc lc st μ → Vc y own fr lo 0 0 G 232 Q pc lc st μ 232 0) {Rt : Mem → Option AV → Prop} (hR : ∀ μ r, Lk μ → Rt μ r → Q μ r) (h : stp I y (.ldc_w idx) pc lc st μ K Rt) : Vc y own fr lo 0 0 G 232 Q pc lc st μ 232 0 := by
  have hg : irg y pc (.ldc_w idx) = true := by obtain ⟨_, -, -, q⟩ := hc; exact q
  simp only [stp] at h
  split at h
  · rename_i hl
    exact k_ldcw (hI.2.2.2.1 _ _ (lk_mem' hl)) (k14_len (n := 3) hc (fun len q => by simpa [lenok] using q)) (hK _ _ _ _ hL h)
  · exact h.elim
theorem s_ldc2_w {idx : Nat} (hI : infOK I y own fr lo) (hL : Lk μ) (hc : ∃ len, decode y.2.1 pc = .ok (.ldc2_w idx, len) ∧ lenok (.ldc2_w idx) len = true ∧ irg y pc (.ldc2_w idx) = true) {K : Nat → List (Nat × AV) → List AV → Mem → Prop} (hK : ∀ pc lc st μ, Lk μ → K pc lc st μ → Vc y own fr lo 0 0 G 232 Q pc lc st μ 232 0) {Rt : Mem → Option AV → Prop} (hR : ∀ μ r, Lk μ → Rt μ r → Q μ r) (h : stp I y (.ldc2_w idx) pc lc st μ K Rt) : Vc y own fr lo 0 0 G 232 Q pc lc st μ 232 0 := by
  have hg : irg y pc (.ldc2_w idx) = true := by obtain ⟨_, -, -, q⟩ := hc; exact q
  simp only [stp] at h
  split at h
  · rename_i hl
    exact k_ldc2 (hI.2.2.2.2.1 _ _ (lk_mem' hl)) (k14_len (n := 3) hc (fun len q => by simpa [lenok] using q)) (hK _ _ _ _ hL h)
  · exact h.elim
theorem s_iaload  (hI : infOK I y own fr lo) (hL : Lk μ) (hc : ∃ len, decode y.2.1 pc = .ok (.iaload, len) ∧ lenok (.iaload) len = true ∧ irg y pc (.iaload) = true) {K : Nat → List (Nat × AV) → List AV → Mem → Prop} (hK : ∀ pc lc st μ, Lk μ → K pc lc st μ → Vc y own fr lo 0 0 G 232 Q pc lc st μ 232 0) {Rt : Mem → Option AV → Prop} (hR : ∀ μ r, Lk μ → Rt μ r → Q μ r) (h : stp I y (.iaload) pc lc st μ K Rt) : Vc y own fr lo 0 0 G 232 Q pc lc st μ 232 0 := by
  have hg : irg y pc (.iaload) = true := by obtain ⟨_, -, -, q⟩ := hc; exact q
  simp only [stp] at h
  split at h
  · refine k_iaload h.1.at (k14_len (n := 1) hc (fun len q => by simpa [lenok] using q)) ?_
    rw [Int.toNat_of_nonneg h.1.1.1]
    exact hK _ _ _ _ hL h.2
  · exact k_iaload_s h.1 (k14_len (n := 1) hc (fun len q => by simpa [lenok] using q)) (hK _ _ _ _ hL h.2)
  · exact h.elim
theorem s_caload  (hI : infOK I y own fr lo) (hL : Lk μ) (hc : ∃ len, decode y.2.1 pc = .ok (.caload, len) ∧ lenok (.caload) len = true ∧ irg y pc (.caload) = true) {K : Nat → List (Nat × AV) → List AV → Mem → Prop} (hK : ∀ pc lc st μ, Lk μ → K pc lc st μ → Vc y own fr lo 0 0 G 232 Q pc lc st μ 232 0) {Rt : Mem → Option AV → Prop} (hR : ∀ μ r, Lk μ → Rt μ r → Q μ r) (h : stp I y (.caload) pc lc st μ K Rt) : Vc y own fr lo 0 0 G 232 Q pc lc st μ 232 0 := by
  have hg : irg y pc (.caload) = true := by obtain ⟨_, -, -, q⟩ := hc; exact q
  simp only [stp] at h
  split at h
  · exact k_caload_s h.1 (k14_len (n := 1) hc (fun len q => by simpa [lenok] using q)) (hK _ _ _ _ hL h.2)
  · exact h.elim
theorem s_laload  (hI : infOK I y own fr lo) (hL : Lk μ) (hc : ∃ len, decode y.2.1 pc = .ok (.laload, len) ∧ lenok (.laload) len = true ∧ irg y pc (.laload) = true) {K : Nat → List (Nat × AV) → List AV → Mem → Prop} (hK : ∀ pc lc st μ, Lk μ → K pc lc st μ → Vc y own fr lo 0 0 G 232 Q pc lc st μ 232 0) {Rt : Mem → Option AV → Prop} (hR : ∀ μ r, Lk μ → Rt μ r → Q μ r) (h : stp I y (.laload) pc lc st μ K Rt) : Vc y own fr lo 0 0 G 232 Q pc lc st μ 232 0 := by
  have hg : irg y pc (.laload) = true := by obtain ⟨_, -, -, q⟩ := hc; exact q
  simp only [stp] at h
  split at h
  · refine k_laload h.1.at (k14_len (n := 1) hc (fun len q => by simpa [lenok] using q)) ?_
    rw [Int.toNat_of_nonneg h.1.1.1]
    exact hK _ _ _ _ hL h.2
  · exact h.elim
theorem s_baload  (hI : infOK I y own fr lo) (hL : Lk μ) (hc : ∃ len, decode y.2.1 pc = .ok (.baload, len) ∧ lenok (.baload) len = true ∧ irg y pc (.baload) = true) {K : Nat → List (Nat × AV) → List AV → Mem → Prop} (hK : ∀ pc lc st μ, Lk μ → K pc lc st μ → Vc y own fr lo 0 0 G 232 Q pc lc st μ 232 0) {Rt : Mem → Option AV → Prop} (hR : ∀ μ r, Lk μ → Rt μ r → Q μ r) (h : stp I y (.baload) pc lc st μ K Rt) : Vc y own fr lo 0 0 G 232 Q pc lc st μ 232 0 := by
  have hg : irg y pc (.baload) = true := by obtain ⟨_, -, -, q⟩ := hc; exact q
  simp only [stp] at h
  split at h
  · obtain ⟨h1 | h1, h2⟩ := h
    · refine k_baload h1.at (k14_len (n := 1) hc (fun len q => by simpa [lenok] using q)) ?_
      rw [Int.toNat_of_nonneg h1.1.1]
      exact hK _ _ _ _ hL h2
    · refine k_zaload h1.at (k14_len (n := 1) hc (fun len q => by simpa [lenok] using q)) ?_
      rw [Int.toNat_of_nonneg h1.1.1]
      exact hK _ _ _ _ hL h2
  · exact h.elim
theorem s_aaload  (hI : infOK I y own fr lo) (hL : Lk μ) (hc : ∃ len, decode y.2.1 pc = .ok (.aaload, len) ∧ lenok (.aaload) len = true ∧ irg y pc (.aaload) = true) {K : Nat → List (Nat × AV) → List AV → Mem → Prop} (hK : ∀ pc lc st μ, Lk μ → K pc lc st μ → Vc y own fr lo 0 0 G 232 Q pc lc st μ 232 0) {Rt : Mem → Option AV → Prop} (hR : ∀ μ r, Lk μ → Rt μ r → Q μ r) (h : stp I y (.aaload) pc lc st μ K Rt) : Vc y own fr lo 0 0 G 232 Q pc lc st μ 232 0 := by
  have hg : irg y pc (.aaload) = true := by obtain ⟨_, -, -, q⟩ := hc; exact q
  simp only [stp] at h
  split at h
  · rcases h with ⟨h1, h2⟩ | ⟨h1, h2⟩
    · refine k_taload h1.at (k14_len (n := 1) hc (fun len q => by simpa [lenok] using q)) ?_
      rw [Int.toNat_of_nonneg h1.1.1, hL.2.1 _ _ h1]
      exact hK _ _ _ _ hL h2
    · refine k_waload h1.at (k14_len (n := 1) hc (fun len q => by simpa [lenok] using q)) ?_
      rw [Int.toNat_of_nonneg h1.1.1, hL.2.2 _ _ h1]
      exact hK _ _ _ _ hL h2
  · exact h.elim
theorem s_iastore  (hI : infOK I y own fr lo) (hL : Lk μ) (hc : ∃ len, decode y.2.1 pc = .ok (.iastore, len) ∧ lenok (.iastore) len = true ∧ irg y pc (.iastore) = true) {K : Nat → List (Nat × AV) → List AV → Mem → Prop} (hK : ∀ pc lc st μ, Lk μ → K pc lc st μ → Vc y own fr lo 0 0 G 232 Q pc lc st μ 232 0) {Rt : Mem → Option AV → Prop} (hR : ∀ μ r, Lk μ → Rt μ r → Q μ r) (h : stp I y (.iastore) pc lc st μ K Rt) : Vc y own fr lo 0 0 G 232 Q pc lc st μ 232 0 := by
  have hg : irg y pc (.iastore) = true := by obtain ⟨_, -, -, q⟩ := hc; exact q
  simp only [stp] at h
  split at h
  · refine k_iastore h.1.at (k14_len (n := 1) hc (fun len q => by simpa [lenok] using q)) ?_
    rw [Int.toNat_of_nonneg h.1.1.1]
    exact hK _ _ _ _ (hL.sta h.1 (by decide)) h.2
  · exact h.elim
theorem s_lastore  (hI : infOK I y own fr lo) (hL : Lk μ) (hc : ∃ len, decode y.2.1 pc = .ok (.lastore, len) ∧ lenok (.lastore) len = true ∧ irg y pc (.lastore) = true) {K : Nat → List (Nat × AV) → List AV → Mem → Prop} (hK : ∀ pc lc st μ, Lk μ → K pc lc st μ → Vc y own fr lo 0 0 G 232 Q pc lc st μ 232 0) {Rt : Mem → Option AV → Prop} (hR : ∀ μ r, Lk μ → Rt μ r → Q μ r) (h : stp I y (.lastore) pc lc st μ K Rt) : Vc y own fr lo 0 0 G 232 Q pc lc st μ 232 0 := by
  have hg : irg y pc (.lastore) = true := by obtain ⟨_, -, -, q⟩ := hc; exact q
  simp only [stp] at h
  split at h
  · refine k_lastore h.1.at (k14_len (n := 1) hc (fun len q => by simpa [lenok] using q)) ?_
    rw [Int.toNat_of_nonneg h.1.1.1]
    exact hK _ _ _ _ (hL.sta h.1 (by decide)) h.2
  · exact h.elim
theorem s_bastore  (hI : infOK I y own fr lo) (hL : Lk μ) (hc : ∃ len, decode y.2.1 pc = .ok (.bastore, len) ∧ lenok (.bastore) len = true ∧ irg y pc (.bastore) = true) {K : Nat → List (Nat × AV) → List AV → Mem → Prop} (hK : ∀ pc lc st μ, Lk μ → K pc lc st μ → Vc y own fr lo 0 0 G 232 Q pc lc st μ 232 0) {Rt : Mem → Option AV → Prop} (hR : ∀ μ r, Lk μ → Rt μ r → Q μ r) (h : stp I y (.bastore) pc lc st μ K Rt) : Vc y own fr lo 0 0 G 232 Q pc lc st μ 232 0 := by
  have hg : irg y pc (.bastore) = true := by obtain ⟨_, -, -, q⟩ := hc; exact q
  simp only [stp] at h
  split at h
  · obtain ⟨⟨h1, h3⟩ | ⟨h1, h3⟩, h2⟩ := h
    · refine k_bastore h1.at h3 (k14_len (n := 1) hc (fun len q => by simpa [lenok] using q)) ?_
      rw [Int.toNat_of_nonneg h1.1.1]
      exact hK _ _ _ _ (hL.sta h1 (by decide)) h2
    · refine k_zastore h1.at h3 (k14_len (n := 1) hc (fun len q => by simpa [lenok] using q)) ?_
      rw [Int.toNat_of_nonneg h1.1.1]
      exact hK _ _ _ _ (hL.sta h1 (by decide)) h2
  · exact h.elim
theorem s_arraylength  (hI : infOK I y own fr lo) (hL : Lk μ) (hc : ∃ len, decode y.2.1 pc = .ok (.arraylength, len) ∧ lenok (.arraylength) len = true ∧ irg y pc (.arraylength) = true) {K : Nat → List (Nat × AV) → List AV → Mem → Prop} (hK : ∀ pc lc st μ, Lk μ → K pc lc st μ → Vc y own fr lo 0 0 G 232 Q pc lc st μ 232 0) {Rt : Mem → Option AV → Prop} (hR : ∀ μ r, Lk μ → Rt μ r → Q μ r) (h : stp I y (.arraylength) pc lc st μ K Rt) : Vc y own fr lo 0 0 G 232 Q pc lc st μ 232 0 := by
  have hg : irg y pc (.arraylength) = true := by obtain ⟨_, -, -, q⟩ := hc; exact q
  simp only [stp] at h
  split at h
  · exact k_alen ⟨h.1.1, rfl, h.1.2⟩ (k14_len (n := 1) hc (fun len q => by simpa [lenok] using q)) (hK _ _ _ _ hL h.2)
  · exact k_alen_s h.1 (k14_len (n := 1) hc (fun len q => by simpa [lenok] using q)) (hK _ _ _ _ hL h.2)
  · exact h.elim
theorem s_ireturn  (hI : infOK I y own fr lo) (hL : Lk μ) (hc : ∃ len, decode y.2.1 pc = .ok (.ireturn, len) ∧ lenok (.ireturn) len = true ∧ irg y pc (.ireturn) = true) {K : Nat → List (Nat × AV) → List AV → Mem → Prop} (hK : ∀ pc lc st μ, Lk μ → K pc lc st μ → Vc y own fr lo 0 0 G 232 Q pc lc st μ 232 0) {Rt : Mem → Option AV → Prop} (hR : ∀ μ r, Lk μ → Rt μ r → Q μ r) (h : stp I y (.ireturn) pc lc st μ K Rt) : Vc y own fr lo 0 0 G 232 Q pc lc st μ 232 0 := by
  have hg : irg y pc (.ireturn) = true := by obtain ⟨_, -, -, q⟩ := hc; exact q
  simp only [stp] at h
  split at h
  · unfold retP at h
    split at h
    · rename_i hr
      exact k_ireturn hr (Or.inl rfl) rfl rfl (k14_len (n := 1) hc (fun len q => by simpa [lenok] using q)) (hR _ _ hL h)
    · rename_i hr
      exact k_ireturn hr (Or.inr ⟨rfl, h.1⟩) rfl rfl (k14_len (n := 1) hc (fun len q => by simpa [lenok] using q)) (hR _ _ hL h.2)
    · exact h.elim
  · exact h.elim
theorem s_lreturn  (hI : infOK I y own fr lo) (hL : Lk μ) (hc : ∃ len, decode y.2.1 pc = .ok (.lreturn, len) ∧ lenok (.lreturn) len = true ∧ irg y pc (.lreturn) = true) {K : Nat → List (Nat × AV) → List AV → Mem → Prop} (hK : ∀ pc lc st μ, Lk μ → K pc lc st μ → Vc y own fr lo 0 0 G 232 Q pc lc st μ 232 0) {Rt : Mem → Option AV → Prop} (hR : ∀ μ r, Lk μ → Rt μ r → Q μ r) (h : stp I y (.lreturn) pc lc st μ K Rt) : Vc y own fr lo 0 0 G 232 Q pc lc st μ 232 0 := by
  have hg : irg y pc (.lreturn) = true := by obtain ⟨_, -, -, q⟩ := hc; exact q
  simp only [stp] at h
  split at h
  · exact k_lreturn (by simpa [irg] using hg) rfl rfl (k14_len (n := 1) hc (fun len q => by simpa [lenok] using q)) (hR _ _ hL h)
  · exact h.elim
theorem s_areturn  (hI : infOK I y own fr lo) (hL : Lk μ) (hc : ∃ len, decode y.2.1 pc = .ok (.areturn, len) ∧ lenok (.areturn) len = true ∧ irg y pc (.areturn) = true) {K : Nat → List (Nat × AV) → List AV → Mem → Prop} (hK : ∀ pc lc st μ, Lk μ → K pc lc st μ → Vc y own fr lo 0 0 G 232 Q pc lc st μ 232 0) {Rt : Mem → Option AV → Prop} (hR : ∀ μ r, Lk μ → Rt μ r → Q μ r) (h : stp I y (.areturn) pc lc st μ K Rt) : Vc y own fr lo 0 0 G 232 Q pc lc st μ 232 0 := by
  have hg : irg y pc (.areturn) = true := by obtain ⟨_, -, -, q⟩ := hc; exact q
  simp only [stp] at h
  split at h
  · simp only [irg] at hg
    split at hg
    · rename_i hr
      exact k_areturn hr rfl rfl (k14_len (n := 1) hc (fun len q => by simpa [lenok] using q)) (hR _ _ hL h)
    · exact absurd hg (by simp)
  · exact h.elim
theorem s_return  (hI : infOK I y own fr lo) (hL : Lk μ) (hc : ∃ len, decode y.2.1 pc = .ok (.return_, len) ∧ lenok (.return_) len = true ∧ irg y pc (.return_) = true) {K : Nat → List (Nat × AV) → List AV → Mem → Prop} (hK : ∀ pc lc st μ, Lk μ → K pc lc st μ → Vc y own fr lo 0 0 G 232 Q pc lc st μ 232 0) {Rt : Mem → Option AV → Prop} (hR : ∀ μ r, Lk μ → Rt μ r → Q μ r) (h : stp I y (.return_) pc lc st μ K Rt) : Vc y own fr lo 0 0 G 232 Q pc lc st μ 232 0 := by
  have hg : irg y pc (.return_) = true := by obtain ⟨_, -, -, q⟩ := hc; exact q
  simp only [stp] at h
  split at h
  · exact k_return (by simpa [irg] using hg) rfl rfl (k14_len (n := 1) hc (fun len q => by simpa [lenok] using q)) (hR _ _ hL h)
  · exact h.elim
theorem s_invokevirtual {idx : Nat} (hI : infOK I y own fr lo) (hL : Lk μ) (hc : ∃ len, decode y.2.1 pc = .ok (.invokevirtual idx, len) ∧ lenok (.invokevirtual idx) len = true ∧ irg y pc (.invokevirtual idx) = true) {K : Nat → List (Nat × AV) → List AV → Mem → Prop} (hK : ∀ pc lc st μ, Lk μ → K pc lc st μ → Vc y own fr lo 0 0 G 232 Q pc lc st μ 232 0) {Rt : Mem → Option AV → Prop} (hR : ∀ μ r, Lk μ → Rt μ r → Q μ r) (h : stp I y (.invokevirtual idx) pc lc st μ K Rt) : Vc y own fr lo 0 0 G 232 Q pc lc st μ 232 0 := by
  have hg : irg y pc (.invokevirtual idx) = true := by obtain ⟨_, -, -, q⟩ := hc; exact q
  simp only [stp] at h
  split at h
  · rename_i na ci S hl
    obtain ⟨y', fr', lo', c1, c2, c3, c4, c5, c6, c7, c8⟩ := hI.2.2.2.2.2.2 _ _ (lk_mem' hl)
    split at h
    · rename_i z rest hst
      obtain ⟨h1, h2⟩ := h
      split at h2
      · rename_i hb1 hb2
        have e : st = (st.take na).reverse.reverse ++ kR z :: rest := by
          rw [List.reverse_reverse]
          have := List.take_append_drop na st
          rw [hst] at this
          exact this.symm
        rw [e]
        have hlen : (st.take na).reverse.length = na := by
          rw [List.length_reverse, List.length_take]
          have := Nat.le_of_ble_eq_true hb2
          omega
        refine k_callV c1 c2 c3 c4 c5 hlen (h1.at c7) c6 (by omega) (Nat.le_of_ble_eq_true hb1) (k14_len (n := 3) hc (fun len q => by simpa [lenok] using q)) ?_
        refine ⟨rfl, hL, ?_⟩
        exact c8 _ _ _ _ (fun μ' r q hL' => hK _ _ _ _ hL' q) h2
      · exact h2.elim
    · exact h.elim
  · exact h.elim
theorem s_invokestatic {idx : Nat} (hI : infOK I y own fr lo) (hL : Lk μ) (hc : ∃ len, decode y.2.1 pc = .ok (.invokestatic idx, len) ∧ lenok (.invokestatic idx) len = true ∧ irg y pc (.invokestatic idx) = true) {K : Nat → List (Nat × AV) → List AV → Mem → Prop} (hK : ∀ pc lc st μ, Lk μ → K pc lc st μ → Vc y own fr lo 0 0 G 232 Q pc lc st μ 232 0) {Rt : Mem → Option AV → Prop} (hR : ∀ μ r, Lk μ → Rt μ r → Q μ r) (h : stp I y (.invokestatic idx) pc lc st μ K Rt) : Vc y own fr lo 0 0 G 232 Q pc lc st μ 232 0 := by
  have hg : irg y pc (.invokestatic idx) = true := by obtain ⟨_, -, -, q⟩ := hc; exact q
  simp only [stp] at h
  split at h
  · rename_i na x S hl
    obtain ⟨y', fr', lo', c1, c2, c3, c4, c5, c6⟩ := hI.2.2.2.2.2.2 _ _ (lk_mem' hl)
    split at h
    · rename_i hb1 hb2
      have e : st = (st.take na).reverse.reverse ++ st.drop na := by
        rw [List.reverse_reverse]
        exact (List.take_append_drop na st).symm
      have hlen : (st.take na).reverse.length = na := by
        rw [List.length_reverse, List.length_take]
        have := Nat.le_of_ble_eq_true hb2
        omega
      rw [e]
      refine k_callS c1 c2 c3 c4 c5 hlen (by omega) (Nat.le_of_ble_eq_true hb1) (k14_len (n := 3) hc (fun len q => by simpa [lenok] using q)) ?_
      refine ⟨rfl, hL, ?_⟩
      exact c6 _ _ _ _ (fun μ' r q hL' => hK _ _ _ _ hL' q) h
    · exact h.elim
  · rename_i x kd S hl
    obtain ⟨c1, c2, c3, c4, c5, c6, c7⟩ := hI.2.2.2.2.2.2 _ _ (lk_mem' hl)
    split at h
    · rename_i m q d q' a
      obtain ⟨⟨rfl, rfl⟩, ⟨a1, a2⟩, ⟨d1, d2⟩, hm, hby, h⟩ := h
      have ea : ((a.toNat : Nat) : Int) = a := Int.toNat_of_nonneg a1.1
      have ed : ((d.toNat : Nat) : Int) = d := Int.toNat_of_nonneg d1.1
      refine k_copy (N0 := (LAY a.toNat).2) (N1 := (LAY d.toNat).2) c1 a1 d1 (lay_eq a2) (lay_eq d2) hm (by rw [ea]; exact hby) c2 c3 c4 c5 rfl c6 c7 (k14_len (n := 3) hc (fun len q => by simpa [lenok] using q)) ?_
      rw [ea, ed]
      exact hK _ _ _ _ (hL.set_ d2 (by omega)) h
    · exact h.elim
  · exact h.elim
theorem stp_sound {i : Instr} (hI : infOK I y own fr lo) (hL : Lk μ) (hc : ∃ len, decode y.2.1 pc = .ok (i, len) ∧ lenok (i) len = true ∧ irg y pc (i) = true) {K : Nat → List (Nat × AV) → List AV → Mem → Prop} (hK : ∀ pc lc st μ, Lk μ → K pc lc st μ → Vc y own fr lo 0 0 G 232 Q pc lc st μ 232 0) {Rt : Mem → Option AV → Prop} (hR : ∀ μ r, Lk μ → Rt μ r → Q μ r) (h : stp I y (i) pc lc st μ K Rt) : Vc y own fr lo 0 0 G 232 Q pc lc st μ 232 0 := by
  cases i with
  | iconst c => exact s_iconst hI hL hc hK hR h
  | bipush c => exact s_bipush hI hL hc hK hR h
  | sipush c => exact s_sipush hI hL hc hK hR h
  | lconst c => exact s_lconst hI hL hc hK hR h
  | aconst_null  => exact s_null hI hL hc hK hR h
  | iload_n a => exact s_iload_n hI hL hc hK hR h
  | iload a => exact s_iload hI hL hc hK hR h
  | lload_n a => exact s_lload_n hI hL hc hK hR h
  | lload a => exact s_lload hI hL hc hK hR h
  | aload_n a => exact s_aload_n hI hL hc hK hR h
  | aload a => exact s_aload hI hL hc hK hR h
  | istore_n a => exact s_istore_n hI hL hc hK hR h
  | istore a => exact s_istore hI hL hc hK hR h
  | lstore_n a => exact s_lstore_n hI hL hc hK hR h
  | lstore a => exact s_lstore hI hL hc hK hR h
  | astore_n a => exact s_astore_n hI hL hc hK hR h
  | astore a => exact s_astore hI hL hc hK hR h
  | iinc a b => exact s_iinc hI hL hc hK hR h
  | iadd  => exact s_iadd hI hL hc hK hR h
  | isub  => exact s_isub hI hL hc hK hR h
  | imul  => exact s_imul hI hL hc hK hR h
  | iand  => exact s_iand hI hL hc hK hR h
  | ior  => exact s_ior hI hL hc hK hR h
  | ixor  => exact s_ixor hI hL hc hK hR h
  | ishl  => exact s_ishl hI hL hc hK hR h
  | ishr  => exact s_ishr hI hL hc hK hR h
  | iushr  => exact s_iushr hI hL hc hK hR h
  | ladd  => exact s_ladd hI hL hc hK hR h
  | lsub  => exact s_lsub hI hL hc hK hR h
  | lmul  => exact s_lmul hI hL hc hK hR h
  | lneg  => exact s_lneg hI hL hc hK hR h
  | i2b  => exact s_i2b hI hL hc hK hR h
  | idiv  => exact s_idiv hI hL hc hK hR h
  | irem  => exact s_irem hI hL hc hK hR h
  | ldiv  => exact s_ldiv hI hL hc hK hR h
  | lrem  => exact s_lrem hI hL hc hK hR h
  | i2l  => exact s_i2l hI hL hc hK hR h
  | lcmp  => exact s_lcmp hI hL hc hK hR h
  | dup  => exact s_dup hI hL hc hK hR h
  | dup2  => exact s_dup2 hI hL hc hK hR h
  | iaload  => exact s_iaload hI hL hc hK hR h
  | caload  => exact s_caload hI hL hc hK hR h
  | laload  => exact s_laload hI hL hc hK hR h
  | baload  => exact s_baload hI hL hc hK hR h
  | aaload  => exact s_aaload hI hL hc hK hR h
  | iastore  => exact s_iastore hI hL hc hK hR h
  | lastore  => exact s_lastore hI hL hc hK hR h
  | bastore  => exact s_bastore hI hL hc hK hR h
  | arraylength  => exact s_arraylength hI hL hc hK hR h
  | ireturn  => exact s_ireturn hI hL hc hK hR h
  | lreturn  => exact s_lreturn hI hL hc hK hR h
  | areturn  => exact s_areturn hI hL hc hK hR h
  | ifCond a b => exact s_ifCond hI hL hc hK hR h
  | if_icmp a b => exact s_if_icmp hI hL hc hK hR h
  | ifnull a => exact s_ifnull hI hL hc hK hR h
  | ifnonnull a => exact s_ifnonnull hI hL hc hK hR h
  | goto a => exact s_goto hI hL hc hK hR h
  | tableswitch a b c d => exact s_tswitch hI hL hc hK hR h
  | getfield a => exact s_getfield hI hL hc hK hR h
  | putfield a => exact s_putfield hI hL hc hK hR h
  | getstatic a => exact s_getstatic hI hL hc hK hR h
  | ldc a => exact s_ldc hI hL hc hK hR h
  | ldc_w a => exact s_ldc_w hI hL hc hK hR h
  | ldc2_w a => exact s_ldc2_w hI hL hc hK hR h
  | invokevirtual a => exact s_invokevirtual hI hL hc hK hR h
  | invokestatic a => exact s_invokestatic hI hL hc hK hR h
  | return_  => exact s_return hI hL hc hK hR h
  | _ => exact absurd h id
/-- a stretch of code, up to the places at which it is cut; there the locals that are named stand in this order -/
def nrml (lc : List (Nat × AV)) : List Nat → Option (List (Nat × AV))
  | [] => some []
  | k :: ks => match lc.lookup k, nrml lc ks with
    | some v, some t => some ((k, v) :: t)
    | _, _ => none
def wpc (I : Inf) (y : Mt) (cuts : List (Nat × List Nat)) (K : Nat → List (Nat × AV) → List AV → Mem → Prop) (Rt : Mem → Option AV → Prop) : Nat → Nat → List (Nat × AV) → List AV → Mem → Prop
  | 0, _, _, _, _ => False
  | f + 1, pc, lc, st, μ => match I.1.lookup pc with
    | none => False
    | some i => stp I y i pc lc st μ (fun pc lc st μ => match cuts.lookup pc with
      | some ks => match nrml lc ks with
        | some lc' => K pc lc' st μ
        | none => False
      | none => wpc I y cuts K Rt f pc lc st μ) Rt
theorem nrml_ok : ∀ {lc lc' : List (Nat × AV)} (ks : List Nat), nrml lc ks = some lc' → ∀ q ∈ lc', q ∈ lc
  | lc, lc', [], h, q, hq => by cases h; cases hq
  | lc, lc', k :: ks, h, q, hq => by
    unfold nrml at h
    split at h
    · rename_i v t h1 h2
      cases h
      rcases List.mem_cons.mp hq with rfl | hq
      · exact lk_mem' h1
      · exact nrml_ok ks h2 q hq
    · cases h
theorem Vc.sub {n n0 mc ms sl : Nat} {lc' : List (Nat × AV)} (h : ∀ q ∈ lc', q ∈ lc) (k : Vc y own fr lo mc ms G n0 Q pc lc' st μ n sl) : Vc y own fr lo mc ms G n0 Q pc lc st μ n sl := by
  intro p l e s m args below meth c C H locs ls h1 h2 h3 h4
  refine k p l e s m args below meth c C H locs ls h1 h2 ⟨h3.1, h3.2.1, fun q hq => ?_⟩ h4
  obtain ⟨x, hx, rfl⟩ := List.mem_map.mp hq
  exact h3.2.2 _ (List.mem_map.mpr ⟨x, h x hx, rfl⟩)
theorem wpc_sound (hI : infOK I y own fr lo) {cuts : List (Nat × List Nat)} {K : Nat → List (Nat × AV) → List AV → Mem → Prop} (hK : ∀ pc lc st μ, Lk μ → K pc lc st μ → Vc y own fr lo 0 0 G 232 Q pc lc st μ 232 0) {Rt : Mem → Option AV → Prop} (hR : ∀ μ r, Lk μ → Rt μ r → Q μ r) : ∀ (f pc : Nat) (lc : List (Nat × AV)) (st : List AV) (μ : Mem), Lk μ → wpc I y cuts K Rt f pc lc st μ → Vc y own fr lo 0 0 G 232 Q pc lc st μ 232 0
  | 0, _, _, _, _, _, h => h.elim
  | f + 1, pc, lc, st, μ, hL, h => by
    unfold wpc at h
    split at h
    · exact h.elim
    · rename_i i hi
      refine stp_sound hI hL (hI.1 _ _ (lk_mem' hi)) ?_ hR h
      intro pc lc st μ hL q
      split at q
      · split at q
        · rename_i hn
          exact (hK _ _ _ _ hL q).sub (nrml_ok _ hn)
        · exact q.elim
      · exact wpc_sound hI hK hR f pc lc st μ hL q
end K14
