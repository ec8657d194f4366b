/-! tables of a class and of a method, checked by program -/
def fchk (own : String) (e : (Nat × Nat × Nat × Int) × Nat) : Bool := match vwCl[e.1.2.1]? with
  | none => false
  | some q => decide (e.1.2.2.1 < q.2.2) && decide (e.1.2.2.1 < NF e.1.2.1) && decide (e.1.2.2.2 = (e.1.2.2.1 : Int)) && decide ((q.2.1 e.1.2.2.1).1 = q.1) && (match tables_1[e.2]? with
    | some (.fieldLink o i r n d) => decide (o = own) && decide (i = e.1.1) && decide (r = q.1) && decide (n = (q.2.1 e.1.2.2.1).2.1) && decide (d = (q.2.1 e.1.2.2.1).2.2.1)
    | some (.fieldLinkNest o i r n d _) => decide (o = own) && decide (i = e.1.1) && decide (r = q.1) && decide (n = (q.2.1 e.1.2.2.1).2.1) && decide (d = (q.2.1 e.1.2.2.1).2.2.1)
    | _ => false)
theorem in_ok {w : Cond} {i : Nat} (h : tables_1[i]? = some w) (hg : goodWord w = true) : w ∈ lw_ok := List.mem_filter.mpr ⟨tb_in (List.mem_of_getElem? h), hg⟩
theorem in_tb {w : Cond} {i : Nat} (h : tables_1[i]? = some w) : w ∈ lw_tbl := tb_in (List.mem_of_getElem? h)
theorem fchk_ok {own : String} {e : (Nat × Nat × Nat × Int) × Nat} (h : fchk own e = true) : fOK own e.1.1 e.1.2.1 e.1.2.2.1 ∧ e.1.2.2.1 < NF e.1.2.1 ∧ e.1.2.2.2 = (e.1.2.2.1 : Int) := by
  unfold fchk at h
  split at h
  · cases h
  · rename_i q hq
    simp only [Bool.and_eq_true, decide_eq_true_eq] at h
    obtain ⟨⟨⟨⟨h1, h2⟩, h3⟩, h4⟩, h5⟩ := h
    refine ⟨⟨q, hq, h1, h4, ?_⟩, h2, h3⟩
    split at h5
    · rename_i o i r n d hw
      simp only [Bool.and_eq_true, decide_eq_true_eq] at h5
      obtain ⟨⟨⟨⟨rfl, rfl⟩, rfl⟩, rfl⟩, rfl⟩ := h5
      exact Or.inl (in_ok hw rfl)
    · rename_i o i r n d ho hw
      simp only [Bool.and_eq_true, decide_eq_true_eq] at h5
      obtain ⟨⟨⟨⟨rfl, rfl⟩, rfl⟩, rfl⟩, rfl⟩ := h5
      exact Or.inr ⟨ho, in_tb hw⟩
    · cases h5
theorem f_tab {own : String} (l : List ((Nat × Nat × Nat × Int) × Nat)) {t : List (Nat × Nat × Nat × Int)} (ht : t = l.map Prod.fst) (h : l.all (fchk own) = true) : ∀ idx ci f fz, (idx, ci, f, fz) ∈ t → fOK own idx ci f ∧ f < NF ci ∧ fz = (f : Int) := by
  intro idx ci f fz hm
  rw [ht] at hm
  obtain ⟨e, he, h2⟩ := List.mem_map.mp hm
  have := fchk_ok (List.all_eq_true.mp h e he)
  rw [h2] at this
  exact this
/-- of a field that is written: not final, no reference -/
def pchk (e : Nat × Nat × Nat × Int) : Bool := match vwCl[e.2.1]? with
  | none => false
  | some q => (q.2.1 e.2.2.1).2.2.2 == false && decide (tgOf (TYS e.2.1 e.2.2.1) ≠ 2)
theorem p_tab {own : String} (l : List ((Nat × Nat × Nat × Int) × Nat)) {t : List (Nat × Nat × Nat × Int)} (ht : t = l.map Prod.fst) (h : l.all (fchk own) = true) (h2 : t.all pchk = true) (y : Mt) : ∀ idx ci f fz, (idx, ci, f, fz) ∈ t → pOK y own idx ci f ∧ f < NF ci ∧ fz = (f : Int) ∧ tgOf (TYS ci f) ≠ 2 := by
  intro idx ci f fz hm
  obtain ⟨⟨q, q1, q2, q3, q4⟩, f2, f3⟩ := f_tab l ht h idx ci f fz hm
  have hp := List.all_eq_true.mp h2 _ hm
  unfold pchk at hp
  simp only at hp
  rw [q1] at hp
  simp only [Bool.and_eq_true, beq_iff_eq, decide_eq_true_eq] at hp
  exact ⟨⟨q, q1, q2, q3, Or.inl ⟨hp.1, q4⟩⟩, f2, f3, hp.2⟩
def cchk (own : String) (e : (Nat × Int) × Nat) : Bool := match tables_1[e.2]? with
  | some (.constant o i v) => decide (o = own) && decide (i = e.1.1) && decide (v = Int32.ofInt e.1.2)
  | _ => false
theorem c_tab {own : String} (l : List ((Nat × Int) × Nat)) {t : List (Nat × Int)} (ht : t = l.map Prod.fst) (h : l.all (cchk own) = true) : ∀ idx z, (idx, z) ∈ t → Cond.constant own idx (Int32.ofInt z) ∈ lw_ok := by
  intro idx z hm
  rw [ht] at hm
  obtain ⟨e, he, h2⟩ := List.mem_map.mp hm
  have := List.all_eq_true.mp h e he
  unfold cchk at this
  split at this
  · rename_i hw
    simp only [Bool.and_eq_true, decide_eq_true_eq] at this
    obtain ⟨⟨rfl, rfl⟩, rfl⟩ := this
    rw [h2] at hw
    exact in_ok hw rfl
  · cases this
def lchk (own : String) (e : (Nat × Int) × Nat) : Bool := match tables_1[e.2]? with
  | some (.constantLong o i v) => decide (o = own) && decide (i = e.1.1) && decide (v = Int64.ofInt e.1.2)
  | _ => false
theorem l_tab {own : String} (l : List ((Nat × Int) × Nat)) {t : List (Nat × Int)} (ht : t = l.map Prod.fst) (h : l.all (lchk own) = true) : ∀ idx z, (idx, z) ∈ t → Cond.constantLong own idx (Int64.ofInt z) ∈ lw_ok := by
  intro idx z hm
  rw [ht] at hm
  obtain ⟨e, he, h2⟩ := List.mem_map.mp hm
  have := List.all_eq_true.mp h e he
  unfold lchk at this
  split at this
  · rename_i hw
    simp only [Bool.and_eq_true, decide_eq_true_eq] at this
    obtain ⟨⟨rfl, rfl⟩, rfl⟩ := this
    rw [h2] at hw
    exact in_ok hw rfl
  · cases this
def schk (own : String) (e : (Nat × Nat) × Nat) : Bool := decide (e.1.2 < 8) && (match tables_1[e.2]? with
  | some (.fieldLink o i r n d) => decide (o = own) && decide (i = e.1.1) && decide (r = RX10) && decide (n = (SL e.1.2).1) && decide (d = (SL e.1.2).2.1)
  | some (.fieldLinkNest o i r n d _) => decide (o = own) && decide (i = e.1.1) && decide (r = RX10) && decide (n = (SL e.1.2).1) && decide (d = (SL e.1.2).2.1)
  | _ => false)
theorem s_tab {own : String} (l : List ((Nat × Nat) × Nat)) {t : List (Nat × Nat)} (ht : t = l.map Prod.fst) (h : l.all (schk own) = true) : ∀ idx k, (idx, k) ∈ t → k < 8 ∧ (Cond.fieldLink own idx RX10 (SL k).1 (SL k).2.1 ∈ lw_ok ∨ ∃ host, Cond.fieldLinkNest own idx RX10 (SL k).1 (SL k).2.1 host ∈ lw_tbl) := by
  intro idx k hm
  rw [ht] at hm
  obtain ⟨e, he, h2⟩ := List.mem_map.mp hm
  have := List.all_eq_true.mp h e he
  unfold schk at this
  simp only [Bool.and_eq_true, decide_eq_true_eq] at this
  obtain ⟨h3, h5⟩ := this
  rw [h2] at h3 h5
  refine ⟨h3, ?_⟩
  split at h5
  · rename_i o i r n d hw
    simp only [Bool.and_eq_true, decide_eq_true_eq] at h5
    obtain ⟨⟨⟨⟨rfl, rfl⟩, rfl⟩, rfl⟩, rfl⟩ := h5
    exact Or.inl (in_ok hw rfl)
  · rename_i o i r n d ho hw
    simp only [Bool.and_eq_true, decide_eq_true_eq] at h5
    obtain ⟨⟨⟨⟨rfl, rfl⟩, rfl⟩, rfl⟩, rfl⟩ := h5
    exact Or.inr ⟨ho, in_tb hw⟩
  · cases h5
def kchk (y : Mt) (e : Nat × Instr) : Bool := match decode y.2.1 e.1 with
  | .ok (i, len) => decide (i = e.2) && lenok i len && irg y e.1 i
  | _ => false
theorem k_tab {y : Mt} {code : List (Nat × Instr)} (h : code.all (kchk y) = true) : codeOK y code := by
  intro pc i hm
  have := List.all_eq_true.mp h _ hm
  unfold kchk at this
  split at this
  · rename_i j len hd
    simp only [Bool.and_eq_true, decide_eq_true_eq] at this
    obtain ⟨⟨rfl, h2⟩, h3⟩ := this
    exact ⟨len, hd, h2, h3⟩
  · cases this
theorem m_of {y : Mt} {na a b : Nat} (h1 : decide (y.1.cls ≠ "java/lang/invoke/MethodHandle") && decide (y.1.cls ≠ "java/lang/invoke/VarHandle") = true) (h2 : (parseMethodDescriptor y.1.desc).map (fun d => d.parameters.length) = some na) (h3 : tables_1[a]? = some (.code y.1 y.2.1 y.2.2.1 y.2.2.2)) (h4 : tables_1[b]? = some (.initialized y.1.cls)) : mOK y na := by
  simp only [Bool.and_eq_true, decide_eq_true_eq] at h1
  exact ⟨h1, h2, in_ok h3 rfl, in_ok h4 rfl⟩
theorem v_of {y : Mt} {a b : Nat} (h1 : tables_1[a]? = some (.instanceMethod y.1)) (h2 : lw_tbl[b]? = some (.selects y.1.cls y.1 y.1)) : vOK y := ⟨in_ok h1 rfl, List.mem_filter.mpr ⟨List.mem_of_getElem? h2, rfl⟩⟩
theorem l_of {own : String} {idx a : Nat} {y : Mt} (h : tables_1[a]? = some (.methodLink own idx y.1)) : lOK own idx y := Or.inl (in_ok h rfl)
theorem l_ofN {own host : String} {idx a : Nat} {y : Mt} (h : tables_1[a]? = some (.methodLinkNest own idx y.1 host)) : lOK own idx y := Or.inr ⟨host, in_tb h⟩
