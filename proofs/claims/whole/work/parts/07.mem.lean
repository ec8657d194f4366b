section K7
variable {y : Mt} {own : String} {fr lo mc ms : Nat} {G : Cxt} {n0 : Nat} {Q : Mem → Option AV → Prop} {pc : Nat} {lc : List (Nat × AV)} {st : List AV} {μ : Mem} {n sl : Nat}
theorem ok_before {y : Mt} {args : Array Value} {s : State} (hts : ∀ w ∈ ws_ y, w.before args s = true) {w : Cond} (h : w ∈ lw_ok) : w.before args s = true := hts w (List.mem_cons_of_mem _ h)
theorem ok_in {y : Mt} {w : Cond} (h : w ∈ lw_ok) : w ∈ ws_ y := List.mem_cons_of_mem _ h
theorem nest_before {G : Cxt} {s : State} (hT : hT G s) {w : Cond} (h : w ∈ lw_tbl) (hn : isNest w = true) (ht : w.onTables = true) {args : Array Value} : w.before args s = true := va_Nw.use ht (hT.2.1 w h hn)
/-- a field named at a place of the constant pool, of class ci, number f -/
def fOK (own : String) (idx ci f : Nat) : Prop := ∃ q : vw_C, vwCl[ci]? = some q ∧ f < q.2.2 ∧ (q.2.1 f).1 = q.1 ∧ (Cond.fieldLink own idx q.1 (q.2.1 f).2.1 (q.2.1 f).2.2.1 ∈ lw_ok ∨ ∃ host, Cond.fieldLinkNest own idx q.1 (q.2.1 f).2.1 (q.2.1 f).2.2.1 host ∈ lw_tbl)
/-- the same of a field that a method may write -/
def pOK (y : Mt) (own : String) (idx ci f : Nat) : Prop := ∃ q : vw_C, vwCl[ci]? = some q ∧ f < q.2.2 ∧ (q.2.1 f).1 = q.1 ∧ (((q.2.1 f).2.2.2 = false ∧ (Cond.fieldLink own idx q.1 (q.2.1 f).2.1 (q.2.1 f).2.2.1 ∈ lw_ok ∨ ∃ host, Cond.fieldLinkNest own idx q.1 (q.2.1 f).2.1 (q.2.1 f).2.2.1 host ∈ lw_tbl)) ∨ ((q.2.1 f).2.2.2 = true ∧ Cond.fieldLink own idx q.1 (q.2.1 f).2.1 (q.2.1 f).2.2.1 ∈ lw_ok ∧ y.1.name = "<init>" ∧ q.1 = own))
/-- an object of class ci at z, with more than f fields -/
def atO (n : Nat) (z : Int) (ci f : Nat) : Prop := (0 ≤ z ∧ z < (n : Int)) ∧ (LAY z.toNat).1 = ci + 10 ∧ f < (LAY z.toNat).2
/-- an array of kind kd at z, with a place j -/
def atA (n : Nat) (z : Int) (kd : Nat) (j : Int) : Prop := (0 ≤ z ∧ z < (n : Int)) ∧ (LAY z.toNat).1 = kd ∧ 0 ≤ j ∧ j < ((LAY z.toNat).2 : Int)
theorem cont_obj {o ci N : Nat} {f : Int → Int} (h : LAY o = (ci + 10, N)) : cont G o f = .inr (ci, fvs G ci N f) := by
  unfold cont
  rw [h]
  rfl
theorem lay_small : ∀ o, (LAY o).2 ≤ 5160 := by
  intro o
  unfold LAY
  rw [List.getD_eq_getElem?_getD]
  cases h : lay[o]? with
  | none => simp
  | some q =>
    have h2 : ∀ q ∈ lay, q.2 ≤ 5160 := by decide +kernel
    exact h2 q (List.mem_of_getElem? h)
theorem atA.r {z j : Int} {kd : Nat} (h : atA n z kd j) : r32 j := by
  have h2 := lay_small z.toNat
  obtain ⟨-, -, h3, h4⟩ := h
  unfold r32
  omega
theorem atA.in {z j : Int} {kd : Nat} (h : atA n z kd j) : vp_in (Int32.ofInt j) (LAY z.toNat).2 := n_in h.r h.2.2.1 h.2.2.2
theorem atA.cl {z j : Int} {kd : Nat} (h : atA n z kd j) : (Int32.ofInt j).toNatClampNeg = j.toNat := n_clamp h.r h.2.2.1
theorem fvs_at {ci N : Nat} {f : Int → Int} {k : Nat} (h : k < N) : (fvs G ci N f)[k]? = some (cv G (tgOf (TYS ci k), f k)) := by
  simp [fvs, h]
theorem lay_eq {o kd : Nat} (h : (LAY o).1 = kd) : LAY o = (kd, (LAY o).2) := by rw [← h]
theorem k_getfield {idx ci f : Nat} {z : Int} (hF : fOK own idx ci f) (ha : atO n z ci f) (hd : decode y.2.1 pc = .ok (.getfield idx, 3)) (k : Vc y own fr lo mc ms G n0 Q (pc + 3) lc ((tgOf (TYS ci f), μ z.toNat f) :: st) μ n sl) : Vc y own fr lo mc ms G n0 Q pc lc (kR z :: st) μ n sl := by
  intro p l e s m args below meth c C H locs ls h1 h2 h3 h4
  have kk := k p l e s m args below meth c C H locs ls h1 h2 h3 h4
  obtain ⟨hx, hb, hml, hown, hts, hret, hlk, hnm, hT0, hS0, hsz⟩ := C
  obtain ⟨⟨z0, z1⟩, l1, l2⟩ := ha
  obtain ⟨⟨C, T, N⟩, q1, q2, q3, q4⟩ := hF
  have hq := cls_ok q1
  have hlt : z.toNat < n := by omega
  have hwa : (wrld G n μ)[z.toNat]? = some (b0 G + z.toNat, .inr (ci, fvs G ci (LAY z.toNat).2 (μ z.toNat))) := by
    rw [wrld_at hlt, cont_obj (lay_eq l1)]
  rw [List.map_cons, cv_ref z0]
  have hv := fvs_at (G := G) (ci := ci) (f := μ z.toNat) l2
  have hsame : ∀ x, s.fieldFound? (T f).1 (T f).2.1 (T f).2.2.1 = some x → s.fieldFound? C (T f).2.1 (T f).2.2.1 = some x := fun x h => by
    have e : (T f).1 = C := q3
    rw [e] at h; exact h
  rcases q4 with hl | ⟨host, hl⟩
  · exact va_get (T := T) (N := N) (ref := C) hx hb hts (fun w hw => ok_in (hq.1 w hw)) hown hT0.1 h1.1 z.toNat hwa q1 f q2 (ok_before hts hl) hsame hv hd kk
  · exact va_getN (T := T) (N := N) (ref := C) hx hb hts (fun w hw => ok_in (hq.1 w hw)) hown hT0.1 h1.1 z.toNat hwa q1 f q2 (nest_before hT0 hl rfl rfl) hsame hv hd kk
/-- what may be written into a field -/
def fitZ (ty : FieldType) (w : Int) : Prop := match ty with
  | .boolean => 0 ≤ w ∧ w ≤ 1
  | .int => True
  | .long => True
  | .object _ => True
  | .array _ => True
  | _ => False
theorem n_bit {w : Int} (h : 0 ≤ w ∧ w ≤ 1) : w = 0 ∨ w = 1 := by omega
theorem fitZ_ok {ty : FieldType} {w : Int} (h : fitZ ty w) : narrow ty (cv G (tgOf ty, w)) = cv G (tgOf ty, w) ∧ fits ty (cv G (tgOf ty, w)) = true := by
  cases ty with
  | boolean => rcases n_bit h with rfl | rfl <;> exact ⟨rfl, rfl⟩
  | int => exact ⟨rfl, rfl⟩
  | long => exact ⟨rfl, rfl⟩
  | object _ =>
    by_cases hz : w < 0
    · show narrow _ (cv G (2, w)) = cv G (2, w) ∧ fits _ (cv G (2, w)) = true
      rw [cv_null hz]; exact ⟨rfl, rfl⟩
    · show narrow _ (cv G (2, w)) = cv G (2, w) ∧ fits _ (cv G (2, w)) = true
      rw [cv_ref (by omega)]; exact ⟨rfl, rfl⟩
  | array _ =>
    by_cases hz : w < 0
    · show narrow _ (cv G (2, w)) = cv G (2, w) ∧ fits _ (cv G (2, w)) = true
      rw [cv_null hz]; exact ⟨rfl, rfl⟩
    · show narrow _ (cv G (2, w)) = cv G (2, w) ∧ fits _ (cv G (2, w)) = true
      rw [cv_ref (by omega)]; exact ⟨rfl, rfl⟩
  | _ => exact absurd h id
theorem fvs_set {ci N f : Nat} {g : Int → Int} {w : Int} : (fvs G ci N g).set f (cv G (tgOf (TYS ci f), w)) = fvs G ci N (upd1 g f w) := by
  apply List.ext_getElem?
  intro k
  by_cases hk : f = k
  · subst hk
    by_cases hn : f < N
    · rw [List.getElem?_set_self (by simp [fvs, hn]), fvs_at hn]
      simp [upd1]
    · rw [List.getElem?_eq_none (by simp [fvs]; omega), List.getElem?_eq_none (by simp [fvs]; omega)]
  · rw [List.getElem?_set_ne hk]
    by_cases hn : k < N
    · rw [fvs_at hn, fvs_at hn]
      have : ¬ (k : Int) = (f : Int) := by omega
      simp [upd1, this]
    · rw [List.getElem?_eq_none (by simp [fvs]; omega), List.getElem?_eq_none (by simp [fvs]; omega)]
theorem va_S.sz {A : Nat → Prop} {H0 H : Heap} {locs : List Loc} (h : va_S A H0 H locs) : H0.size ≤ H.size := h.1
/-- the world behind a write -/
theorem wr_back {μ' : Mem} {H H1 : Heap} {w : va_W} {locs locs1 : List Loc} {s : State} (h1 : hH G n μ H) (hw : w = wrld G n μ') (p1 : va_P (DG G) vwCl w H1) (d1 : va_D (AG G) w) (hz : H1.size = H.size) : hH G n μ' H1 := by
  subst hw
  exact ⟨p1, d1, by rw [hz]; exact h1.2.2⟩
end K7
