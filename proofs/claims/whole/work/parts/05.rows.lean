section K5
variable {y : Mt} {own : String} {fr lo mc ms : Nat} {G : Cxt} {n0 : Nat} {Q : Mem → Option AV → Prop} {pc : Nat} {lc : List (Nat × AV)} {st : List AV} {μ : Mem} {n sl : Nat}
theorem lk_mem {i : Nat} {v : AV} : ∀ {lc : List (Nat × AV)}, lc.lookup i = some v → (i, v) ∈ lc
  | [], h => by simp at h
  | (j, w) :: t, h => by
    rw [List.lookup_cons] at h
    split at h
    · rename_i hij
      have e : i = j := by simpa using hij
      subst e
      cases h
      exact List.mem_cons_self
    · exact List.mem_cons_of_mem _ (lk_mem h)
theorem lk_at {ls : Array Slot} {nL i : Nat} {v : AV} {lc : List (Nat × AV)} (h : lv_has ls nL (cvl G lc)) (hl : lc.lookup i = some v) : ls[i]? = some (.val (cv G v)) :=
  h.2.2 (i, cv G v) (List.mem_map.mpr ⟨(i, v), lk_mem hl, rfl⟩)
theorem cv_cat (v : AV) : (cv G v).category = if v.1 = 1 then 2 else 1 := by
  obtain ⟨t, z⟩ := v
  match t with
  | 0 => rfl
  | 1 => rfl
  | 2 =>
    by_cases h : z < 0
    · rw [cv_null h]; rfl
    · rw [cv_ref (by omega)]; rfl
  | t + 3 => rfl
def sto1 (lc : List (Nat × AV)) (i : Nat) (v : AV) : List (Nat × AV) := (i, v) :: lc.filter (fun q => !(q.1 == i) && !(q.1 + 1 == i && q.2.1 == 1))
def sto2 (lc : List (Nat × AV)) (i : Nat) (v : AV) : List (Nat × AV) := (i, v) :: lc.filter (fun q => !(q.1 == i) && (!(q.1 == i + 1) && !(q.1 + 1 == i && q.2.1 == 1)))
theorem cv_c2 (v : AV) : ((cv G v).category == 2) = (v.1 == 1) := by
  rw [cv_cat]
  by_cases h : v.1 = 1 <;> simp [h]
theorem cvl_sto1 {lc : List (Nat × AV)} {i : Nat} {v : AV} : (i, cv G v) :: (cvl G lc).filter (fun q => !(q.1 == i) && !(q.1 + 1 == i && q.2.category == 2)) = cvl G (sto1 lc i v) := by
  unfold cvl sto1
  rw [List.filter_map, List.map_cons]
  simp only [Function.comp_def, cv_c2]
theorem cvl_sto2 {lc : List (Nat × AV)} {i : Nat} {v : AV} : (i, cv G v) :: (cvl G lc).filter (fun q => !(q.1 == i) && (!(q.1 == i + 1) && !(q.1 + 1 == i && q.2.category == 2))) = cvl G (sto2 lc i v) := by
  unfold cvl sto2
  rw [List.filter_map, List.map_cons]
  simp only [Function.comp_def, cv_c2]
theorem k_iconst {c : Int} (hd : decode y.2.1 pc = .ok (.iconst c, 1)) (k : Vc y own fr lo mc ms G n0 Q (pc + 1) lc (kI c :: st) μ n sl) : Vc y own fr lo mc ms G n0 Q pc lc (st) μ n sl := by
  intro p l e s m args below meth c C H locs ls h1 h2 h3 h4
  have kk := k p l e s m args below meth c C H locs ls h1 h2 h3 h4
  exact lv_iconst C.1 C.2.1 hd rfl kk
theorem k_bipush {c : Int} (hc : -128 ≤ c ∧ c ≤ 127) (hd : decode y.2.1 pc = .ok (.bipush c, 2)) (k : Vc y own fr lo mc ms G n0 Q (pc + 2) lc (kI c :: st) μ n sl) : Vc y own fr lo mc ms G n0 Q pc lc (st) μ n sl := by
  intro p l e s m args below meth c C H locs ls h1 h2 h3 h4
  have kk := k p l e s m args below meth c C H locs ls h1 h2 h3 h4
  exact lv_bipush C.1 C.2.1 hd (n_bip hc) kk
theorem k_sipush {c : Int} (hc : -32768 ≤ c ∧ c ≤ 32767) (hd : decode y.2.1 pc = .ok (.sipush c, 3)) (k : Vc y own fr lo mc ms G n0 Q (pc + 3) lc (kI c :: st) μ n sl) : Vc y own fr lo mc ms G n0 Q pc lc (st) μ n sl := by
  intro p l e s m args below meth c C H locs ls h1 h2 h3 h4
  have kk := k p l e s m args below meth c C H locs ls h1 h2 h3 h4
  exact lv_sipush C.1 C.2.1 hd (n_sip hc) kk
theorem k_lconst {d : Fin 2} (hd : decode y.2.1 pc = .ok (.lconst d, 1)) (k : Vc y own fr lo mc ms G n0 Q (pc + 1) lc (kL d.val :: st) μ n sl) : Vc y own fr lo mc ms G n0 Q pc lc (st) μ n sl := by
  intro p l e s m args below meth c C H locs ls h1 h2 h3 h4
  have kk := k p l e s m args below meth c C H locs ls h1 h2 h3 h4
  exact lv_lconst C.1 C.2.1 hd (by match d with | 0 => rfl | 1 => rfl) kk
theorem k_iload_n {i : Fin 4} {z : Int} (hl : lc.lookup i.val = some (0, z)) (hd : decode y.2.1 pc = .ok (.iload_n i, 1)) (k : Vc y own fr lo mc ms G n0 Q (pc + 1) lc ((0, z) :: st) μ n sl) : Vc y own fr lo mc ms G n0 Q pc lc (st) μ n sl := by
  intro p l e s m args below meth c C H locs ls h1 h2 h3 h4
  have kk := k p l e s m args below meth c C H locs ls h1 h2 h3 h4
  exact lv_iload_n C.1 C.2.1 hd rfl (lk_at h3 hl) kk
theorem k_iload {i : Nat} {z : Int} (hl : lc.lookup i = some (0, z)) (hd : decode y.2.1 pc = .ok (.iload i, 2)) (k : Vc y own fr lo mc ms G n0 Q (pc + 2) lc ((0, z) :: st) μ n sl) : Vc y own fr lo mc ms G n0 Q pc lc (st) μ n sl := by
  intro p l e s m args below meth c C H locs ls h1 h2 h3 h4
  have kk := k p l e s m args below meth c C H locs ls h1 h2 h3 h4
  exact lv_iload C.1 C.2.1 hd (lk_at h3 hl) kk
theorem k_lload_n {i : Fin 4} {z : Int} (hl : lc.lookup i.val = some (1, z)) (hd : decode y.2.1 pc = .ok (.lload_n i, 1)) (k : Vc y own fr lo mc ms G n0 Q (pc + 1) lc ((1, z) :: st) μ n sl) : Vc y own fr lo mc ms G n0 Q pc lc (st) μ n sl := by
  intro p l e s m args below meth c C H locs ls h1 h2 h3 h4
  have kk := k p l e s m args below meth c C H locs ls h1 h2 h3 h4
  exact lv_lload_n C.1 C.2.1 hd rfl (lk_at h3 hl) kk
theorem k_lload {i : Nat} {z : Int} (hl : lc.lookup i = some (1, z)) (hd : decode y.2.1 pc = .ok (.lload i, 2)) (k : Vc y own fr lo mc ms G n0 Q (pc + 2) lc ((1, z) :: st) μ n sl) : Vc y own fr lo mc ms G n0 Q pc lc (st) μ n sl := by
  intro p l e s m args below meth c C H locs ls h1 h2 h3 h4
  have kk := k p l e s m args below meth c C H locs ls h1 h2 h3 h4
  exact lv_lload C.1 C.2.1 hd (lk_at h3 hl) kk
theorem k_aload_n {i : Fin 4} {v : AV} (hv : 2 ≤ v.1) (hl : lc.lookup i.val = some v) (hd : decode y.2.1 pc = .ok (.aload_n i, 1)) (k : Vc y own fr lo mc ms G n0 Q (pc + 1) lc (v :: st) μ n sl) : Vc y own fr lo mc ms G n0 Q pc lc (st) μ n sl := by
  intro p l e s m args below meth c C H locs ls h1 h2 h3 h4
  have kk := k p l e s m args below meth c C H locs ls h1 h2 h3 h4
  have hl := lk_at h3 hl
  rcases (show (∃ x, cv G v = .ref x) ∨ cv G v = .null from by
    obtain ⟨t, z⟩ := v
    match t, hv with
    | 2, _ =>
      by_cases h : z < 0
      · exact Or.inr (cv_null h)
      · exact Or.inl ⟨_, cv_ref (by omega)⟩
    | t + 3, _ => exact Or.inl ⟨_, rfl⟩) with ⟨x, hx⟩ | hx
  · rw [hx] at hl
    rw [List.map_cons, hx] at kk
    exact lv_aload_n C.1 C.2.1 hd rfl hl kk
  · rw [hx] at hl
    rw [List.map_cons, hx] at kk
    intro T hT X
    obtain ⟨t, a, b⟩ := kk T hT X
    refine ⟨t, ?_, b⟩
    have hb := C.2.1
    have hexec := C.1
    jvm_step X.here [X.here.top, hexec, hb, hd, hl, Value.isRef]
    exact a
theorem k_aload {i : Nat} {v : AV} (hv : 2 ≤ v.1) (hl : lc.lookup i = some v) (hd : decode y.2.1 pc = .ok (.aload i, 2)) (k : Vc y own fr lo mc ms G n0 Q (pc + 2) lc (v :: st) μ n sl) : Vc y own fr lo mc ms G n0 Q pc lc (st) μ n sl := by
  intro p l e s m args below meth c C H locs ls h1 h2 h3 h4
  have kk := k p l e s m args below meth c C H locs ls h1 h2 h3 h4
  have hl := lk_at h3 hl
  rcases (show (∃ x, cv G v = .ref x) ∨ cv G v = .null from by
    obtain ⟨t, z⟩ := v
    match t, hv with
    | 2, _ =>
      by_cases h : z < 0
      · exact Or.inr (cv_null h)
      · exact Or.inl ⟨_, cv_ref (by omega)⟩
    | t + 3, _ => exact Or.inl ⟨_, rfl⟩) with ⟨x, hx⟩ | hx
  · rw [hx] at hl
    rw [List.map_cons, hx] at kk
    exact lv_aload C.1 C.2.1 hd hl kk
  · rw [hx] at hl
    rw [List.map_cons, hx] at kk
    intro T hT X
    obtain ⟨t, a, b⟩ := kk T hT X
    refine ⟨t, ?_, b⟩
    have hb := C.2.1
    have hexec := C.1
    jvm_step X.here [X.here.top, hexec, hb, hd, hl, Value.isRef]
    exact a
theorem k_istore_n {i : Fin 4} {z : Int} (hn : i.val < y.2.2.1) (hd : decode y.2.1 pc = .ok (.istore_n i, 1)) (k : Vc y own fr lo mc ms G n0 Q (pc + 1) (sto1 lc i.val (kI z)) st μ n sl) : Vc y own fr lo mc ms G n0 Q pc lc (kI z :: st) μ n sl := by
  intro p l e s m args below meth c C H locs ls h1 h2 h3 h4
  have kk := fun ls h => k p l e s m args below meth c C H locs ls h1 h2 h h4
  exact lv_istore_n (lv := cvl G lc) C.1 C.2.1 hd rfl h3 hn (cvl_sto1 (v := kI z)) kk
theorem k_istore {i : Nat} {z : Int} (hn : i < y.2.2.1) (hd : decode y.2.1 pc = .ok (.istore i, 2)) (k : Vc y own fr lo mc ms G n0 Q (pc + 2) (sto1 lc i (kI z)) st μ n sl) : Vc y own fr lo mc ms G n0 Q pc lc (kI z :: st) μ n sl := by
  intro p l e s m args below meth c C H locs ls h1 h2 h3 h4
  have kk := fun ls h => k p l e s m args below meth c C H locs ls h1 h2 h h4
  exact lv_istore (lv := cvl G lc) C.1 C.2.1 hd h3 hn (cvl_sto1 (v := kI z)) kk
theorem k_lstore_n {i : Fin 4} {z : Int} (hn : i.val + 1 < y.2.2.1) (hd : decode y.2.1 pc = .ok (.lstore_n i, 1)) (k : Vc y own fr lo mc ms G n0 Q (pc + 1) (sto2 lc i.val (kL z)) st μ n sl) : Vc y own fr lo mc ms G n0 Q pc lc (kL z :: st) μ n sl := by
  intro p l e s m args below meth c C H locs ls h1 h2 h3 h4
  have kk := fun ls h => k p l e s m args below meth c C H locs ls h1 h2 h h4
  exact lv_lstore_n (lv := cvl G lc) C.1 C.2.1 hd rfl h3 hn (cvl_sto2 (v := kL z)) kk
theorem k_lstore {i : Nat} {z : Int} (hn : i + 1 < y.2.2.1) (hd : decode y.2.1 pc = .ok (.lstore i, 2)) (k : Vc y own fr lo mc ms G n0 Q (pc + 2) (sto2 lc i (kL z)) st μ n sl) : Vc y own fr lo mc ms G n0 Q pc lc (kL z :: st) μ n sl := by
  intro p l e s m args below meth c C H locs ls h1 h2 h3 h4
  have kk := fun ls h => k p l e s m args below meth c C H locs ls h1 h2 h h4
  exact lv_lstore (lv := cvl G lc) C.1 C.2.1 hd h3 hn (cvl_sto2 (v := kL z)) kk
theorem k_astore_n {i : Fin 4} {v : AV} (hv : 2 ≤ v.1) (hn : i.val < y.2.2.1) (hd : decode y.2.1 pc = .ok (.astore_n i, 1)) (k : Vc y own fr lo mc ms G n0 Q (pc + 1) (sto1 lc i.val v) st μ n sl) : Vc y own fr lo mc ms G n0 Q pc lc (v :: st) μ n sl := by
  intro p l e s m args below meth c C H locs ls h1 h2 h3 h4
  have kk := fun ls h => k p l e s m args below meth c C H locs ls h1 h2 h h4
  obtain ⟨ls', e', h'⟩ := lv_store1 (v := cv G v) h3 hn (by rw [cv_cat, if_neg (by omega)])
  rw [cvl_sto1] at h'
  have kk := kk ls' h'
  rcases (show (∃ x, cv G v = .ref x) ∨ cv G v = .null from by
    obtain ⟨t, z⟩ := v
    match t, hv with
    | 2, _ =>
      by_cases h : z < 0
      · exact Or.inr (cv_null h)
      · exact Or.inl ⟨_, cv_ref (by omega)⟩
    | t + 3, _ => exact Or.inl ⟨_, rfl⟩) with ⟨x, hx⟩ | hx
  all_goals
    rw [List.map_cons, hx]
    rw [hx] at e'
    intro T hT X
    obtain ⟨t, a, b⟩ := kk T hT X
    refine ⟨t, ?_, b⟩
    have hb := C.2.1
    have hexec := C.1
    jvm_step X.here [X.here.top, ↓top_set X.here.top, hexec, hb, hd, e', Value.isRef]
    exact a
theorem k_astore {i : Nat} {v : AV} (hv : 2 ≤ v.1) (hn : i < y.2.2.1) (hd : decode y.2.1 pc = .ok (.astore i, 2)) (k : Vc y own fr lo mc ms G n0 Q (pc + 2) (sto1 lc i v) st μ n sl) : Vc y own fr lo mc ms G n0 Q pc lc (v :: st) μ n sl := by
  intro p l e s m args below meth c C H locs ls h1 h2 h3 h4
  have kk := fun ls h => k p l e s m args below meth c C H locs ls h1 h2 h h4
  obtain ⟨ls', e', h'⟩ := lv_store1 (v := cv G v) h3 hn (by rw [cv_cat, if_neg (by omega)])
  rw [cvl_sto1] at h'
  have kk := kk ls' h'
  rcases (show (∃ x, cv G v = .ref x) ∨ cv G v = .null from by
    obtain ⟨t, z⟩ := v
    match t, hv with
    | 2, _ =>
      by_cases h : z < 0
      · exact Or.inr (cv_null h)
      · exact Or.inl ⟨_, cv_ref (by omega)⟩
    | t + 3, _ => exact Or.inl ⟨_, rfl⟩) with ⟨x, hx⟩ | hx
  all_goals
    rw [List.map_cons, hx]
    rw [hx] at e'
    intro T hT X
    obtain ⟨t, a, b⟩ := kk T hT X
    refine ⟨t, ?_, b⟩
    have hb := C.2.1
    have hexec := C.1
    jvm_step X.here [X.here.top, ↓top_set X.here.top, hexec, hb, hd, e', Value.isRef]
    exact a
theorem k_iinc {i : Nat} {c z : Int} (hl : lc.lookup i = some (0, z)) (hn : i < y.2.2.1) (hd : decode y.2.1 pc = .ok (.iinc i c, 3)) (k : Vc y own fr lo mc ms G n0 Q (pc + 3) (sto1 lc i (kI (z + c))) st μ n sl) : Vc y own fr lo mc ms G n0 Q pc lc st μ n sl := by
  intro p l e s m args below meth c' C H locs ls h1 h2 h3 h4
  have kk := fun ls h => k p l e s m args below meth c' C H locs ls h1 h2 h h4
  obtain ⟨k0, hk0⟩ := List.getElem?_of_mem (List.mem_map.mpr ⟨_, lk_mem hl, rfl⟩ : (i, cv G (0, z)) ∈ cvl G lc)
  exact lv_iinc (lv := cvl G lc) (k := k0) (x := Int32.ofInt z) (v := Int32.ofInt (z + c)) C.1 C.2.1 hd h3 hk0 (n_add z c) hn (cvl_sto1 (v := kI (z + c))) kk
theorem k_iadd {a b : Int} (hd : decode y.2.1 pc = .ok (.iadd, 1)) (k : Vc y own fr lo mc ms G n0 Q (pc + 1) lc (kI (a + b) :: st) μ n sl) : Vc y own fr lo mc ms G n0 Q pc lc (kI b :: kI a :: st) μ n sl := by
  intro p l e s m args below meth c C H locs ls h1 h2 h3 h4
  have kk := k p l e s m args below meth c C H locs ls h1 h2 h3 h4
  refine lv_iadd (x := Int32.ofInt a) (y := Int32.ofInt b) C.1 C.2.1 hd ?_
  rw [n_add]
  exact kk
theorem k_ladd {a b : Int} (hd : decode y.2.1 pc = .ok (.ladd, 1)) (k : Vc y own fr lo mc ms G n0 Q (pc + 1) lc (kL (a + b) :: st) μ n sl) : Vc y own fr lo mc ms G n0 Q pc lc (kL b :: kL a :: st) μ n sl := by
  intro p l e s m args below meth c C H locs ls h1 h2 h3 h4
  have kk := k p l e s m args below meth c C H locs ls h1 h2 h3 h4
  refine lv_ladd (x := Int64.ofInt a) (y := Int64.ofInt b) C.1 C.2.1 hd ?_
  rw [n_ladd]
  exact kk
theorem k_isub {a b : Int} (hd : decode y.2.1 pc = .ok (.isub, 1)) (k : Vc y own fr lo mc ms G n0 Q (pc + 1) lc (kI (a - b) :: st) μ n sl) : Vc y own fr lo mc ms G n0 Q pc lc (kI b :: kI a :: st) μ n sl := by
  intro p l e s m args below meth c C H locs ls h1 h2 h3 h4
  have kk := k p l e s m args below meth c C H locs ls h1 h2 h3 h4
  refine lv_isub (x := Int32.ofInt a) (y := Int32.ofInt b) C.1 C.2.1 hd ?_
  rw [n_sub]
  exact kk
theorem k_lsub {a b : Int} (hd : decode y.2.1 pc = .ok (.lsub, 1)) (k : Vc y own fr lo mc ms G n0 Q (pc + 1) lc (kL (a - b) :: st) μ n sl) : Vc y own fr lo mc ms G n0 Q pc lc (kL b :: kL a :: st) μ n sl := by
  intro p l e s m args below meth c C H locs ls h1 h2 h3 h4
  have kk := k p l e s m args below meth c C H locs ls h1 h2 h3 h4
  refine lv_lsub (x := Int64.ofInt a) (y := Int64.ofInt b) C.1 C.2.1 hd ?_
  rw [n_lsub]
  exact kk
theorem k_imul {a b : Int} (hd : decode y.2.1 pc = .ok (.imul, 1)) (k : Vc y own fr lo mc ms G n0 Q (pc + 1) lc (kI (a * b) :: st) μ n sl) : Vc y own fr lo mc ms G n0 Q pc lc (kI b :: kI a :: st) μ n sl := by
  intro p l e s m args below meth c C H locs ls h1 h2 h3 h4
  have kk := k p l e s m args below meth c C H locs ls h1 h2 h3 h4
  refine lv_imul (x := Int32.ofInt a) (y := Int32.ofInt b) C.1 C.2.1 hd ?_
  rw [n_mul]
  exact kk
theorem k_lmul {a b : Int} (hd : decode y.2.1 pc = .ok (.lmul, 1)) (k : Vc y own fr lo mc ms G n0 Q (pc + 1) lc (kL (a * b) :: st) μ n sl) : Vc y own fr lo mc ms G n0 Q pc lc (kL b :: kL a :: st) μ n sl := by
  intro p l e s m args below meth c C H locs ls h1 h2 h3 h4
  have kk := k p l e s m args below meth c C H locs ls h1 h2 h3 h4
  refine lv_lmul (x := Int64.ofInt a) (y := Int64.ofInt b) C.1 C.2.1 hd ?_
  rw [n_lmul]
  exact kk
theorem k_lneg {a : Int} (hd : decode y.2.1 pc = .ok (.lneg, 1)) (k : Vc y own fr lo mc ms G n0 Q (pc + 1) lc (kL (-a) :: st) μ n sl) : Vc y own fr lo mc ms G n0 Q pc lc (kL a :: st) μ n sl := by
  intro p l e s m args below meth c C H locs ls h1 h2 h3 h4
  have kk := k p l e s m args below meth c C H locs ls h1 h2 h3 h4
  refine lv_lneg (x := Int64.ofInt a) C.1 C.2.1 hd ?_
  rw [n_lneg]
  exact kk
theorem k_iand {a b : Int} (hd : decode y.2.1 pc = .ok (.iand, 1)) (k : Vc y own fr lo mc ms G n0 Q (pc + 1) lc (kI (band a b) :: st) μ n sl) : Vc y own fr lo mc ms G n0 Q pc lc (kI b :: kI a :: st) μ n sl := by
  intro p l e s m args below meth c C H locs ls h1 h2 h3 h4
  have kk := k p l e s m args below meth c C H locs ls h1 h2 h3 h4
  refine lv_iand (x := Int32.ofInt a) (y := Int32.ofInt b) C.1 C.2.1 hd ?_
  have e := n_self (Int32.ofInt a &&& Int32.ofInt b)
  rw [← e]
  exact kk
theorem k_ior {a b : Int} (hd : decode y.2.1 pc = .ok (.ior, 1)) (k : Vc y own fr lo mc ms G n0 Q (pc + 1) lc (kI (bor a b) :: st) μ n sl) : Vc y own fr lo mc ms G n0 Q pc lc (kI b :: kI a :: st) μ n sl := by
  intro p l e s m args below meth c C H locs ls h1 h2 h3 h4
  have kk := k p l e s m args below meth c C H locs ls h1 h2 h3 h4
  refine lv_ior (x := Int32.ofInt a) (y := Int32.ofInt b) C.1 C.2.1 hd ?_
  have e := n_self (Int32.ofInt a ||| Int32.ofInt b)
  rw [← e]
  exact kk
theorem k_ixor {a b : Int} (hd : decode y.2.1 pc = .ok (.ixor, 1)) (k : Vc y own fr lo mc ms G n0 Q (pc + 1) lc (kI (bxor a b) :: st) μ n sl) : Vc y own fr lo mc ms G n0 Q pc lc (kI b :: kI a :: st) μ n sl := by
  intro p l e s m args below meth c C H locs ls h1 h2 h3 h4
  have kk := k p l e s m args below meth c C H locs ls h1 h2 h3 h4
  refine lv_ixor (x := Int32.ofInt a) (y := Int32.ofInt b) C.1 C.2.1 hd ?_
  have e := n_self (Int32.ofInt a ^^^ Int32.ofInt b)
  rw [← e]
  exact kk
theorem k_ishl {a b : Int} (hd : decode y.2.1 pc = .ok (.ishl, 1)) (k : Vc y own fr lo mc ms G n0 Q (pc + 1) lc (kI (bshl a b) :: st) μ n sl) : Vc y own fr lo mc ms G n0 Q pc lc (kI b :: kI a :: st) μ n sl := by
  intro p l e s m args below meth c C H locs ls h1 h2 h3 h4
  have kk := k p l e s m args below meth c C H locs ls h1 h2 h3 h4
  refine lv_ishl (x := Int32.ofInt a) (y := Int32.ofInt b) C.1 C.2.1 hd ?_
  have e := n_self (Int32.ofInt a <<< (Int32.ofInt b &&& 31))
  rw [← e]
  exact kk
theorem k_ishr {a b : Int} (hd : decode y.2.1 pc = .ok (.ishr, 1)) (k : Vc y own fr lo mc ms G n0 Q (pc + 1) lc (kI (bshr a b) :: st) μ n sl) : Vc y own fr lo mc ms G n0 Q pc lc (kI b :: kI a :: st) μ n sl := by
  intro p l e s m args below meth c C H locs ls h1 h2 h3 h4
  have kk := k p l e s m args below meth c C H locs ls h1 h2 h3 h4
  refine lv_ishr (x := Int32.ofInt a) (y := Int32.ofInt b) C.1 C.2.1 hd ?_
  have e := n_self (Int32.ofInt a >>> (Int32.ofInt b &&& 31))
  rw [← e]
  exact kk
theorem k_iushr {a b : Int} (hd : decode y.2.1 pc = .ok (.iushr, 1)) (k : Vc y own fr lo mc ms G n0 Q (pc + 1) lc (kI (bushr a b) :: st) μ n sl) : Vc y own fr lo mc ms G n0 Q pc lc (kI b :: kI a :: st) μ n sl := by
  intro p l e s m args below meth c C H locs ls h1 h2 h3 h4
  have kk := k p l e s m args below meth c C H locs ls h1 h2 h3 h4
  refine lv_iushr (x := Int32.ofInt a) (y := Int32.ofInt b) (v := Int32.ofInt (bushr a b)) C.1 C.2.1 hd ?_ kk
  unfold bushr
  rw [n_self]
theorem k_idiv {a b : Int} (ha : r32 a) (hb : r32 b) (hne : b ≠ 0) (hd : decode y.2.1 pc = .ok (.idiv, 1)) (k : Vc y own fr lo mc ms G n0 Q (pc + 1) lc (kI (a.tdiv b) :: st) μ n sl) : Vc y own fr lo mc ms G n0 Q pc lc (kI b :: kI a :: st) μ n sl := by
  intro p l e s m args below meth c C H locs ls h1 h2 h3 h4
  have kk := k p l e s m args below meth c C H locs ls h1 h2 h3 h4
  refine lv_idiv (x := Int32.ofInt a) (y := Int32.ofInt b) C.1 C.2.1 hd (n_ne hb hne) ?_
  rw [n_div ha hb]
  exact kk
theorem k_irem {a b : Int} (ha : r32 a) (hb : r32 b) (hne : b ≠ 0) (hd : decode y.2.1 pc = .ok (.irem, 1)) (k : Vc y own fr lo mc ms G n0 Q (pc + 1) lc (kI (a.tmod b) :: st) μ n sl) : Vc y own fr lo mc ms G n0 Q pc lc (kI b :: kI a :: st) μ n sl := by
  intro p l e s m args below meth c C H locs ls h1 h2 h3 h4
  have kk := k p l e s m args below meth c C H locs ls h1 h2 h3 h4
  refine lv_irem (x := Int32.ofInt a) (y := Int32.ofInt b) C.1 C.2.1 hd (n_ne hb hne) ?_
  rw [n_div ha hb, n_mul, n_sub, n_tmod]
  exact kk
theorem k_ldiv {a b : Int} (ha : r64 a) (hb : r64 b) (hne : b ≠ 0) (hd : decode y.2.1 pc = .ok (.ldiv, 1)) (k : Vc y own fr lo mc ms G n0 Q (pc + 1) lc (kL (a.tdiv b) :: st) μ n sl) : Vc y own fr lo mc ms G n0 Q pc lc (kL b :: kL a :: st) μ n sl := by
  intro p l e s m args below meth c C H locs ls h1 h2 h3 h4
  have kk := k p l e s m args below meth c C H locs ls h1 h2 h3 h4
  refine lv_ldiv (x := Int64.ofInt a) (y := Int64.ofInt b) C.1 C.2.1 hd (n_lne hb hne) ?_
  rw [n_ldiv ha hb]
  exact kk
theorem k_lrem {a b : Int} (ha : r64 a) (hb : r64 b) (hne : b ≠ 0) (hd : decode y.2.1 pc = .ok (.lrem, 1)) (k : Vc y own fr lo mc ms G n0 Q (pc + 1) lc (kL (a.tmod b) :: st) μ n sl) : Vc y own fr lo mc ms G n0 Q pc lc (kL b :: kL a :: st) μ n sl := by
  intro p l e s m args below meth c C H locs ls h1 h2 h3 h4
  have kk := k p l e s m args below meth c C H locs ls h1 h2 h3 h4
  refine lv_lrem (x := Int64.ofInt a) (y := Int64.ofInt b) C.1 C.2.1 hd (n_lne hb hne) ?_
  rw [n_ldiv ha hb, n_lmul, n_lsub, n_tmod]
  exact kk
theorem k_i2l {a : Int} (ha : r32 a) (hd : decode y.2.1 pc = .ok (.i2l, 1)) (k : Vc y own fr lo mc ms G n0 Q (pc + 1) lc (kL a :: st) μ n sl) : Vc y own fr lo mc ms G n0 Q pc lc (kI a :: st) μ n sl := by
  intro p l e s m args below meth c C H locs ls h1 h2 h3 h4
  have kk := k p l e s m args below meth c C H locs ls h1 h2 h3 h4
  exact lv_i2l (x := Int32.ofInt a) C.1 C.2.1 hd (n_i2l ha) kk
theorem k_i2b {a : Int} (hd : decode y.2.1 pc = .ok (.i2b, 1)) (k : Vc y own fr lo mc ms G n0 Q (pc + 1) lc (kI (a.bmod 256) :: st) μ n sl) : Vc y own fr lo mc ms G n0 Q pc lc (kI a :: st) μ n sl := by
  intro p l e s m args below meth c C H locs ls h1 h2 h3 h4
  have kk := k p l e s m args below meth c C H locs ls h1 h2 h3 h4
  exact lv_i2b (x := Int32.ofInt a) C.1 C.2.1 hd (n_i2b a) kk
theorem k_lcmp {a b : Int} (ha : r64 a) (hb : r64 b) (hd : decode y.2.1 pc = .ok (.lcmp, 1)) (k : Vc y own fr lo mc ms G n0 Q (pc + 1) lc (kI (lcm3 a b) :: st) μ n sl) : Vc y own fr lo mc ms G n0 Q pc lc (kL b :: kL a :: st) μ n sl := by
  intro p l e s m args below meth c C H locs ls h1 h2 h3 h4
  have kk := k p l e s m args below meth c C H locs ls h1 h2 h3 h4
  refine W.lcmp (x := Int64.ofInt a) (y := Int64.ofInt b) C.1 C.2.1 hd ?_
  rw [n_lcmp ha hb]
  exact kk
theorem k_dup {v : AV} (hv : v.1 ≠ 1) (hd : decode y.2.1 pc = .ok (.dup, 1)) (k : Vc y own fr lo mc ms G n0 Q (pc + 1) lc (v :: v :: st) μ n sl) : Vc y own fr lo mc ms G n0 Q pc lc (v :: st) μ n sl := by
  intro p l e s m args below meth c C H locs ls h1 h2 h3 h4
  have kk := k p l e s m args below meth c C H locs ls h1 h2 h3 h4
  exact lv_dup C.1 C.2.1 hd (by rw [cv_cat, if_neg hv]) kk
theorem k_dup2 {v w : AV} (hv : v.1 ≠ 1) (hw : w.1 ≠ 1) (hd : decode y.2.1 pc = .ok (.dup2, 1)) (k : Vc y own fr lo mc ms G n0 Q (pc + 1) lc (v :: w :: v :: w :: st) μ n sl) : Vc y own fr lo mc ms G n0 Q pc lc (v :: w :: st) μ n sl := by
  intro p l e s m args below meth c C H locs ls h1 h2 h3 h4
  have kk := k p l e s m args below meth c C H locs ls h1 h2 h3 h4
  exact lv_dup2_11 C.1 C.2.1 hd (by rw [cv_cat, if_neg hv]) (by rw [cv_cat, if_neg hw]) kk
theorem k_dup2_2 {v : AV} (hv : v.1 = 1) (hd : decode y.2.1 pc = .ok (.dup2, 1)) (k : Vc y own fr lo mc ms G n0 Q (pc + 1) lc (v :: v :: st) μ n sl) : Vc y own fr lo mc ms G n0 Q pc lc (v :: st) μ n sl := by
  intro p l e s m args below meth c C H locs ls h1 h2 h3 h4
  have kk := k p l e s m args below meth c C H locs ls h1 h2 h3 h4
  exact lv_dup2_2 C.1 C.2.1 hd (by rw [cv_cat, if_pos hv]) kk
theorem k_null  (hd : decode y.2.1 pc = .ok (.aconst_null, 1)) (k : Vc y own fr lo mc ms G n0 Q (pc + 1) lc (kR (-1) :: st) μ n sl) : Vc y own fr lo mc ms G n0 Q pc lc (st) μ n sl := by
  intro p l e s m args below meth c C H locs ls h1 h2 h3 h4
  have kk := k p l e s m args below meth c C H locs ls h1 h2 h3 h4
  exact lv_null C.1 C.2.1 hd kk
def cnd (c : Jvm.ClassFile.Cond) (a b : Int) : Prop := match c with
  | .eq => a = b
  | .ne => ¬ a = b
  | .lt => a < b
  | .ge => b ≤ a
  | .gt => b < a
  | .le => a ≤ b
theorem k_if_eq {a : Int} {off : Int} {tgt : Nat} (ha : r32 a) (ht : (pc : Int) + off = (tgt : Int)) (hd : decode y.2.1 pc = .ok (.ifCond .eq off, 3)) (k : cnd .eq a 0 → Vc y own fr lo mc ms G n0 Q tgt lc st μ n sl) (k' : ¬ cnd .eq a 0 → Vc y own fr lo mc ms G n0 Q (pc + 3) lc st μ n sl) : Vc y own fr lo mc ms G n0 Q pc lc (kI a :: st) μ n sl := by
  intro p l e s m args below meth c C H locs ls h1 h2 h3 h4
  exact lv_if_eq C.1 C.2.1 hd ht (fun q => k ((n_eq ha n_r0).mp q) p l e s m args below meth c C H locs ls h1 h2 h3 h4) (fun q => k' (fun z => q ((n_eq ha n_r0).mpr z)) p l e s m args below meth c C H locs ls h1 h2 h3 h4)
theorem k_icmp_eq {a b : Int} {off : Int} {tgt : Nat} (ha : r32 a) (hb : r32 b) (ht : (pc : Int) + off = (tgt : Int)) (hd : decode y.2.1 pc = .ok (.if_icmp .eq off, 3)) (k : cnd .eq a b → Vc y own fr lo mc ms G n0 Q tgt lc st μ n sl) (k' : ¬ cnd .eq a b → Vc y own fr lo mc ms G n0 Q (pc + 3) lc st μ n sl) : Vc y own fr lo mc ms G n0 Q pc lc (kI b :: kI a :: st) μ n sl := by
  intro p l e s m args below meth c C H locs ls h1 h2 h3 h4
  exact lv_icmp_eq C.1 C.2.1 hd ht (fun q => k ((n_eq ha hb).mp q) p l e s m args below meth c C H locs ls h1 h2 h3 h4) (fun q => k' (fun z => q ((n_eq ha hb).mpr z)) p l e s m args below meth c C H locs ls h1 h2 h3 h4)
theorem k_if_ne {a : Int} {off : Int} {tgt : Nat} (ha : r32 a) (ht : (pc : Int) + off = (tgt : Int)) (hd : decode y.2.1 pc = .ok (.ifCond .ne off, 3)) (k : cnd .ne a 0 → Vc y own fr lo mc ms G n0 Q tgt lc st μ n sl) (k' : ¬ cnd .ne a 0 → Vc y own fr lo mc ms G n0 Q (pc + 3) lc st μ n sl) : Vc y own fr lo mc ms G n0 Q pc lc (kI a :: st) μ n sl := by
  intro p l e s m args below meth c C H locs ls h1 h2 h3 h4
  exact lv_if_ne C.1 C.2.1 hd ht (fun q => k (fun z => q ((n_eq ha n_r0).mpr z)) p l e s m args below meth c C H locs ls h1 h2 h3 h4) (fun q => k' (fun z => z ((n_eq ha n_r0).mp q)) p l e s m args below meth c C H locs ls h1 h2 h3 h4)
theorem k_icmp_ne {a b : Int} {off : Int} {tgt : Nat} (ha : r32 a) (hb : r32 b) (ht : (pc : Int) + off = (tgt : Int)) (hd : decode y.2.1 pc = .ok (.if_icmp .ne off, 3)) (k : cnd .ne a b → Vc y own fr lo mc ms G n0 Q tgt lc st μ n sl) (k' : ¬ cnd .ne a b → Vc y own fr lo mc ms G n0 Q (pc + 3) lc st μ n sl) : Vc y own fr lo mc ms G n0 Q pc lc (kI b :: kI a :: st) μ n sl := by
  intro p l e s m args below meth c C H locs ls h1 h2 h3 h4
  exact lv_icmp_ne C.1 C.2.1 hd ht (fun q => k (fun z => q ((n_eq ha hb).mpr z)) p l e s m args below meth c C H locs ls h1 h2 h3 h4) (fun q => k' (fun z => z ((n_eq ha hb).mp q)) p l e s m args below meth c C H locs ls h1 h2 h3 h4)
theorem k_if_lt {a : Int} {off : Int} {tgt : Nat} (ha : r32 a) (ht : (pc : Int) + off = (tgt : Int)) (hd : decode y.2.1 pc = .ok (.ifCond .lt off, 3)) (k : cnd .lt a 0 → Vc y own fr lo mc ms G n0 Q tgt lc st μ n sl) (k' : ¬ cnd .lt a 0 → Vc y own fr lo mc ms G n0 Q (pc + 3) lc st μ n sl) : Vc y own fr lo mc ms G n0 Q pc lc (kI a :: st) μ n sl := by
  intro p l e s m args below meth c C H locs ls h1 h2 h3 h4
  exact lv_if_lt C.1 C.2.1 hd ht (fun q => k ((n_lt ha n_r0).mp q) p l e s m args below meth c C H locs ls h1 h2 h3 h4) (fun q => k' (fun z => q ((n_lt ha n_r0).mpr z)) p l e s m args below meth c C H locs ls h1 h2 h3 h4)
theorem k_icmp_lt {a b : Int} {off : Int} {tgt : Nat} (ha : r32 a) (hb : r32 b) (ht : (pc : Int) + off = (tgt : Int)) (hd : decode y.2.1 pc = .ok (.if_icmp .lt off, 3)) (k : cnd .lt a b → Vc y own fr lo mc ms G n0 Q tgt lc st μ n sl) (k' : ¬ cnd .lt a b → Vc y own fr lo mc ms G n0 Q (pc + 3) lc st μ n sl) : Vc y own fr lo mc ms G n0 Q pc lc (kI b :: kI a :: st) μ n sl := by
  intro p l e s m args below meth c C H locs ls h1 h2 h3 h4
  exact lv_icmp_lt C.1 C.2.1 hd ht (fun q => k ((n_lt ha hb).mp q) p l e s m args below meth c C H locs ls h1 h2 h3 h4) (fun q => k' (fun z => q ((n_lt ha hb).mpr z)) p l e s m args below meth c C H locs ls h1 h2 h3 h4)
theorem k_if_ge {a : Int} {off : Int} {tgt : Nat} (ha : r32 a) (ht : (pc : Int) + off = (tgt : Int)) (hd : decode y.2.1 pc = .ok (.ifCond .ge off, 3)) (k : cnd .ge a 0 → Vc y own fr lo mc ms G n0 Q tgt lc st μ n sl) (k' : ¬ cnd .ge a 0 → Vc y own fr lo mc ms G n0 Q (pc + 3) lc st μ n sl) : Vc y own fr lo mc ms G n0 Q pc lc (kI a :: st) μ n sl := by
  intro p l e s m args below meth c C H locs ls h1 h2 h3 h4
  exact lv_if_ge C.1 C.2.1 hd ht (fun q => k ((n_le n_r0 ha).mp q) p l e s m args below meth c C H locs ls h1 h2 h3 h4) (fun q => k' (fun z => q ((n_le n_r0 ha).mpr z)) p l e s m args below meth c C H locs ls h1 h2 h3 h4)
theorem k_icmp_ge {a b : Int} {off : Int} {tgt : Nat} (ha : r32 a) (hb : r32 b) (ht : (pc : Int) + off = (tgt : Int)) (hd : decode y.2.1 pc = .ok (.if_icmp .ge off, 3)) (k : cnd .ge a b → Vc y own fr lo mc ms G n0 Q tgt lc st μ n sl) (k' : ¬ cnd .ge a b → Vc y own fr lo mc ms G n0 Q (pc + 3) lc st μ n sl) : Vc y own fr lo mc ms G n0 Q pc lc (kI b :: kI a :: st) μ n sl := by
  intro p l e s m args below meth c C H locs ls h1 h2 h3 h4
  exact lv_icmp_ge C.1 C.2.1 hd ht (fun q => k ((n_le hb ha).mp q) p l e s m args below meth c C H locs ls h1 h2 h3 h4) (fun q => k' (fun z => q ((n_le hb ha).mpr z)) p l e s m args below meth c C H locs ls h1 h2 h3 h4)
theorem k_if_gt {a : Int} {off : Int} {tgt : Nat} (ha : r32 a) (ht : (pc : Int) + off = (tgt : Int)) (hd : decode y.2.1 pc = .ok (.ifCond .gt off, 3)) (k : cnd .gt a 0 → Vc y own fr lo mc ms G n0 Q tgt lc st μ n sl) (k' : ¬ cnd .gt a 0 → Vc y own fr lo mc ms G n0 Q (pc + 3) lc st μ n sl) : Vc y own fr lo mc ms G n0 Q pc lc (kI a :: st) μ n sl := by
  intro p l e s m args below meth c C H locs ls h1 h2 h3 h4
  exact lv_if_gt C.1 C.2.1 hd ht (fun q => k ((n_lt n_r0 ha).mp q) p l e s m args below meth c C H locs ls h1 h2 h3 h4) (fun q => k' (fun z => q ((n_lt n_r0 ha).mpr z)) p l e s m args below meth c C H locs ls h1 h2 h3 h4)
theorem k_icmp_gt {a b : Int} {off : Int} {tgt : Nat} (ha : r32 a) (hb : r32 b) (ht : (pc : Int) + off = (tgt : Int)) (hd : decode y.2.1 pc = .ok (.if_icmp .gt off, 3)) (k : cnd .gt a b → Vc y own fr lo mc ms G n0 Q tgt lc st μ n sl) (k' : ¬ cnd .gt a b → Vc y own fr lo mc ms G n0 Q (pc + 3) lc st μ n sl) : Vc y own fr lo mc ms G n0 Q pc lc (kI b :: kI a :: st) μ n sl := by
  intro p l e s m args below meth c C H locs ls h1 h2 h3 h4
  exact lv_icmp_gt C.1 C.2.1 hd ht (fun q => k ((n_lt hb ha).mp q) p l e s m args below meth c C H locs ls h1 h2 h3 h4) (fun q => k' (fun z => q ((n_lt hb ha).mpr z)) p l e s m args below meth c C H locs ls h1 h2 h3 h4)
theorem k_if_le {a : Int} {off : Int} {tgt : Nat} (ha : r32 a) (ht : (pc : Int) + off = (tgt : Int)) (hd : decode y.2.1 pc = .ok (.ifCond .le off, 3)) (k : cnd .le a 0 → Vc y own fr lo mc ms G n0 Q tgt lc st μ n sl) (k' : ¬ cnd .le a 0 → Vc y own fr lo mc ms G n0 Q (pc + 3) lc st μ n sl) : Vc y own fr lo mc ms G n0 Q pc lc (kI a :: st) μ n sl := by
  intro p l e s m args below meth c C H locs ls h1 h2 h3 h4
  exact lv_if_le C.1 C.2.1 hd ht (fun q => k ((n_le ha n_r0).mp q) p l e s m args below meth c C H locs ls h1 h2 h3 h4) (fun q => k' (fun z => q ((n_le ha n_r0).mpr z)) p l e s m args below meth c C H locs ls h1 h2 h3 h4)
theorem k_icmp_le {a b : Int} {off : Int} {tgt : Nat} (ha : r32 a) (hb : r32 b) (ht : (pc : Int) + off = (tgt : Int)) (hd : decode y.2.1 pc = .ok (.if_icmp .le off, 3)) (k : cnd .le a b → Vc y own fr lo mc ms G n0 Q tgt lc st μ n sl) (k' : ¬ cnd .le a b → Vc y own fr lo mc ms G n0 Q (pc + 3) lc st μ n sl) : Vc y own fr lo mc ms G n0 Q pc lc (kI b :: kI a :: st) μ n sl := by
  intro p l e s m args below meth c C H locs ls h1 h2 h3 h4
  exact lv_icmp_le C.1 C.2.1 hd ht (fun q => k ((n_le ha hb).mp q) p l e s m args below meth c C H locs ls h1 h2 h3 h4) (fun q => k' (fun z => q ((n_le ha hb).mpr z)) p l e s m args below meth c C H locs ls h1 h2 h3 h4)
theorem k_goto {off : Int} {tgt : Nat} (ht : (pc : Int) + off = (tgt : Int)) (hd : decode y.2.1 pc = .ok (.goto off, 3)) (k : Vc y own fr lo mc ms G n0 Q tgt lc st μ n sl) : Vc y own fr lo mc ms G n0 Q pc lc st μ n sl := by
  intro p l e s m args below meth c C H locs ls h1 h2 h3 h4
  have kk := k p l e s m args below meth c C H locs ls h1 h2 h3 h4
  exact lv_goto C.1 C.2.1 hd ht kk
theorem k_ifnull {z off : Int} {tgt : Nat} (ht : (pc : Int) + off = (tgt : Int)) (hd : decode y.2.1 pc = .ok (.ifnull off, 3)) (k : z < 0 → Vc y own fr lo mc ms G n0 Q tgt lc st μ n sl) (k' : ¬ z < 0 → Vc y own fr lo mc ms G n0 Q (pc + 3) lc st μ n sl) : Vc y own fr lo mc ms G n0 Q pc lc (kR z :: st) μ n sl := by
  intro p l e s m args below meth c C H locs ls h1 h2 h3 h4
  by_cases hz : z < 0
  · rw [List.map_cons, cv_null hz]
    exact lv_ifnullN C.1 C.2.1 hd ht (k hz p l e s m args below meth c C H locs ls h1 h2 h3 h4)
  · rw [List.map_cons, cv_ref (by omega)]
    exact lv_ifnull C.1 C.2.1 hd (k' hz p l e s m args below meth c C H locs ls h1 h2 h3 h4)
theorem k_ifnonnull {z off : Int} {tgt : Nat} (ht : (pc : Int) + off = (tgt : Int)) (hd : decode y.2.1 pc = .ok (.ifnonnull off, 3)) (k : ¬ z < 0 → Vc y own fr lo mc ms G n0 Q tgt lc st μ n sl) (k' : z < 0 → Vc y own fr lo mc ms G n0 Q (pc + 3) lc st μ n sl) : Vc y own fr lo mc ms G n0 Q pc lc (kR z :: st) μ n sl := by
  intro p l e s m args below meth c C H locs ls h1 h2 h3 h4
  by_cases hz : z < 0
  · rw [List.map_cons, cv_null hz]
    exact lv_ifnonnullN C.1 C.2.1 hd (k' hz p l e s m args below meth c C H locs ls h1 h2 h3 h4)
  · rw [List.map_cons, cv_ref (by omega)]
    exact lv_ifnonnull C.1 C.2.1 hd ht (k hz p l e s m args below meth c C H locs ls h1 h2 h3 h4)
end K5
