section K9
variable {y : Mt} {own : String} {fr lo mc ms : Nat} {G : Cxt} {n0 : Nat} {Q : Mem → Option AV → Prop} {pc : Nat} {lc : List (Nat × AV)} {st : List AV} {μ : Mem} {n sl : Nat}
theorem new_back {H H1 : Heap} {f : Int → Int} (h1 : hH G n μ H) (e : va_at (DG G) vwCl (b0 G + n, cont G n f) H1) (z : H1.size = H.size + 1) (oq : ∀ q : Nat, q < H.size → H1[q]? = H[q]?) : hH G (n + 1) (seto μ n f) H1 := by
  have hk : ∀ (k : Nat) (x : Nat × va_E), (wrld G n μ)[k]? = some x → H1[x.1]? = H[x.1]? := fun k x hx => oq x.1 ((h1.1 k x hx).lt)
  have hP : va_P (DG G) vwCl (wrld G n μ ++ [(b0 G + n, cont G n f)]) H1 := (h1.1.kept hk).app (fun k x hx => by
    have hz : k < 1 := (List.getElem?_eq_some_iff.mp hx).1
    rw [show k = 0 by omega] at hx
    cases hx
    exact e)
  have hD := h1.2.1.push (e := cont G n f) h1.1 h1.2.2.symm AG_at
  rw [wrld_push] at hP hD
  exact ⟨hP, hD, by rw [z, h1.2.2]; omega⟩
theorem new_S {H H1 : Heap} {s : State} {locs : List Loc} (h2 : va_S (AG G) s.heap H locs) (z : H1.size = H.size + 1) (oq : ∀ q : Nat, q < H.size → H1[q]? = H[q]?) : va_S (AG G) s.heap H1 locs :=
  ⟨by rw [z]; exact Nat.le_succ_of_le h2.1, fun x x1 x2 => (oq x (Nat.lt_of_lt_of_le x1 h2.1)).trans (h2.2.1 x x1 x2), h2.2.2⟩
/-- a new object's fields -/
def dfl (ci : Nat) : Int → Int := fun j => if tgOf (TYS ci j.toNat) = 2 then -1 else 0
def tyok : FieldType → Bool
  | .int => true
  | .long => true
  | .boolean => true
  | .object _ => true
  | .array _ => true
  | _ => false
theorem tyok_cl {ci : Nat} {q : vw_C} (h : vwCl[ci]? = some q) : ∀ j, j < q.2.2 → tyok (TYS ci j) = true := by
  have hb : ci < 12 := by
    have := (List.getElem?_eq_some_iff.mp h).1
    simpa using this
  have key : ∀ c, c < 12 → ∀ j, j < ((vwCl[c]?).map (fun q => q.2.2)).getD 0 → tyok (TYS c j) = true := by decide +kernel
  intro j hj
  refine key ci hb j ?_
  rw [h]
  exact hj
theorem dfl_ok {ty : FieldType} (h : tyok ty = true) : defaultValue ty = cv G (tgOf ty, if tgOf ty = 2 then -1 else 0) := by
  cases ty <;> first | rfl | (exact absurd h (by decide))
/-- a class named at a place of the constant pool for 'new' -/
def nOK (own : String) (idx ci N : Nat) : Prop := ∃ q : vw_C, vwCl[ci]? = some q ∧ q.2.2 = N ∧ Cond.classLink own idx q.1 ∈ lw_ok ∧ Cond.instantiable q.1 N ∈ lw_ok ∧ Cond.initialized q.1 ∈ lw_ok
theorem k_new {idx ci N : Nat} (hN : nOK own idx ci N) (hl : LAY n = (ci + 10, N)) (hm : n + 1 ≤ n0 + mc) (hs : sl + N ≤ ms) (hd : decode y.2.1 pc = .ok (.new idx, 3)) (k : Vc y own fr lo mc ms G n0 Q (pc + 3) lc (kR n :: st) (seto μ n (dfl ci)) (n + 1) (sl + N)) : Vc y own fr lo mc ms G n0 Q pc lc st μ n sl := by
  intro p l e s m args below meth c C H locs ls h1 h2 h3 h4
  have kk := fun H h1 h2 => k p l e s m args below meth c C H locs ls h1 h2 h3 (by omega)
  obtain ⟨hx, hb, hml, hown, hts, hret, hlk, hnm, hT0, hS0, hsz⟩ := C
  obtain ⟨⟨C, T, N'⟩, q1, q2, q3, q4, q5⟩ := hN
  cases q2
  obtain ⟨c1, c2, c3⟩ := cls_ok q1
  have hin : ∀ w ∈ u_ws C T N', w ∈ ws_ y := fun w hw => ok_in (c1 w hw)
  have hKn := hT0.1.1 ci _ q1
  refine W.newcK hx hb hown (ok_before hts q3) (ok_before hts q4) (ok_before hts q5) rfl hd (by show n - n0 + 1 ≤ mc; omega) hs hKn.2.1 h1.2.2 fun H1 kC hkC e1 z1 o1 => ?_
  have z2 : H1.size = H.size + 1 := by rw [z1, h1.2.2]
  have o2 : ∀ q : Nat, q < H.size → H1[q]? = H[q]? := fun q hq => o1 q (by rw [← h1.2.2]; exact hq)
  have hat : va_at (DG G) vwCl (b0 G + n, cont G n (dfl ci)) H1 := by
    rw [cont_obj hl]
    refine ⟨_, q1, (u_born (TYS ci) hts hin hKn hkC e1 c2).to (fun j hj => ?_)⟩
    show defaultValue _ = (fvs G ci N' (dfl ci)).getD j .null
    rw [List.getD_eq_getElem?_getD, fvs_at hj, dfl_ok (G := G) (tyok_cl q1 j hj)]
    simp [dfl]
  have := kk H1 (new_back h1 hat z2 o2) (new_S h2 z2 o2)
  rw [List.map_cons, cv_ref (by omega)] at this
  rw [show n + 1 - n0 = n - n0 + 1 by omega] at this
  simpa using this
def akind (a : ArrayType) : Nat := match a with
  | .int => 0
  | .long => 1
  | .byte => 2
  | .boolean => 3
  | _ => 9
theorem k_newarray {a : ArrayType} {z : Int} {N : Nat} (hz : z = N) (hN : N ≤ 10000) (hk : akind a ≤ 3) (hw : Cond.arrayClass (newarray.typeOf a) ∈ lw_ok) (hl : LAY n = (akind a, N)) (hm : n + 1 ≤ n0 + mc) (hs : sl + N ≤ ms) (hd : decode y.2.1 pc = .ok (.newarray a, 2)) (k : Vc y own fr lo mc ms G n0 Q (pc + 2) lc (kR n :: st) (seto μ n (fun _ => 0)) (n + 1) (sl + N)) : Vc y own fr lo mc ms G n0 Q pc lc (kI z :: st) μ n sl := by
  intro p l e s m args below meth c C H locs ls h1 h2 h3 h4
  have kk := fun H h1 h2 => k p l e s m args below meth c C H locs ls h1 h2 h3 (by omega)
  obtain ⟨hx, hb, hml, hown, hts, hret, hlk, hnm, hT0, hS0, hsz⟩ := C
  subst hz
  have hr : r32 (N : Int) := by unfold r32; omega
  have hn1 : ¬ Int32.ofInt (N : Int) < 0 := by rw [n_0, n_lt hr n_r0]; omega
  have hn2 : (Int32.ofInt (N : Int)).toNatClampNeg = N := by rw [n_clamp hr (by omega)]; omega
  refine va_newaK hx hb (ok_before hts hw) rfl hd rfl hn1 hn2 ?_ (by show n - n0 + 1 ≤ mc; omega) hs h1.2.2 fun H1 cA e1 z1 o1 hA hF => ?_
  · have : componentBytes (newarray.typeOf a) ≤ 8 := by cases a <;> decide
    calc N * componentBytes (newarray.typeOf a) ≤ 10000 * 8 := Nat.mul_le_mul hN this
      _ ≤ 536870912 := by omega
  have z2 : H1.size = H.size + 1 := by rw [z1, h1.2.2]
  have o2 : ∀ q : Nat, q < H.size → H1[q]? = H[q]? := fun q hq => o1 q (by rw [← h1.2.2]; exact hq)
  have hat : va_at (DG G) vwCl (b0 G + n, cont G n (fun _ => 0)) H1 := by
    cases a with
    | int =>
      have hc : cA = G.2.2.1 0 := Option.some.inj (hF.symm.trans (hT0.1.2 0 _ rfl).2)
      subst hc
      rw [cont_0 hl]
      exact e1
    | long =>
      have hc : cA = G.2.2.1 1 := Option.some.inj (hF.symm.trans (hT0.1.2 1 _ rfl).2)
      subst hc
      rw [cont_1 hl]
      exact e1
    | byte =>
      have hc : cA = G.2.2.1 2 := Option.some.inj (hF.symm.trans (hT0.1.2 2 _ rfl).2)
      subst hc
      rw [cont_2 hl]
      exact e1
    | boolean =>
      have hc : cA = G.2.2.1 3 := Option.some.inj (hF.symm.trans (hT0.1.2 3 _ rfl).2)
      subst hc
      rw [cont_3 hl]
      exact e1
    | _ => exact absurd hk (by decide)
  have := kk H1 (new_back h1 hat z2 o2) (new_S h2 z2 o2)
  rw [List.map_cons, cv_ref (by omega)] at this
  rw [show n + 1 - n0 = n - n0 + 1 by omega] at this
  simpa using this
/-- an array of references: of towns (kind 4), of worlds (kind 5) -/
theorem k_anewarray {idx kd : Nat} {z : Int} {N : Nat} (hz : z = N) (hN : N ≤ 10000) (hk : (kd = 4 ∧ Cond.classLink own idx RX7 ∈ lw_ok) ∨ (kd = 5 ∧ Cond.classLink own idx RX9 ∈ lw_ok)) (hl : LAY n = (kd, N)) (hm : n + 1 ≤ n0 + mc) (hs : sl + N ≤ ms) (hd : decode y.2.1 pc = .ok (.anewarray idx, 3)) (k : Vc y own fr lo mc ms G n0 Q (pc + 3) lc (kR n :: st) (seto μ n (fun _ => -1)) (n + 1) (sl + N)) : Vc y own fr lo mc ms G n0 Q pc lc (kI z :: st) μ n sl := by
  intro p l e s m args below meth c C H locs ls h1 h2 h3 h4
  have kk := fun H h1 h2 => k p l e s m args below meth c C H locs ls h1 h2 h3 (by omega)
  obtain ⟨hx, hb, hml, hown, hts, hret, hlk, hnm, hT0, hS0, hsz⟩ := C
  subst hz
  have hr : r32 (N : Int) := by unfold r32; omega
  have hn1 : ¬ Int32.ofInt (N : Int) < 0 := by rw [n_0, n_lt hr n_r0]; omega
  have hn2 : (Int32.ofInt (N : Int)).toNatClampNeg = N := by rw [n_clamp hr (by omega)]; omega
  have push : ∀ cA : ClassId, cA = G.2.2.1 kd → (kd = 4 ∨ kd = 5) → W p l e (rmk fr lo mc ms) s m args below meth c (H.push { cls := cA, slots := Array.replicate N .null, vm := .none }) locs (n - n0 + 1) (sl + N) (MQ below (QcOf G (n0 + mc) Q) args s mc ms (AG G)) (F0 m (pc + 3) ls (.ref H.size :: st.map (cv G))) := by
    intro cA hc hk2
    generalize hH1 : H.push ({ cls := cA, slots := Array.replicate N .null, vm := .none } : Cell) = H1
    have z2 : H1.size = H.size + 1 := by rw [← hH1, Array.size_push]
    have e1 : H1[H.size]? = some (arrV cA N (fun _ => .null)) := by rw [← hH1, Array.getElem?_push_size, ← arrV_new]
    have o2 : ∀ q : Nat, q < H.size → H1[q]? = H[q]? := fun q hq => by rw [← hH1, Array.getElem?_push, if_neg (Nat.ne_of_lt hq)]
    have hat : va_at (DG G) vwCl (b0 G + n, cont G n (fun _ => -1)) H1 := by
      rw [← h1.2.2]
      rcases hk2 with rfl | rfl
      · rw [cont_4 hl, ← hc]
        exact e1
      · rw [cont_5 hl, ← hc]
        exact e1
    have := kk H1 (new_back h1 hat z2 o2) (new_S h2 z2 o2)
    rw [List.map_cons, cv_ref (by omega)] at this
    rw [show n + 1 - n0 = n - n0 + 1 by omega] at this
    rw [h1.2.2]
    simpa using this
  rcases hk with ⟨rfl, hw⟩ | ⟨rfl, hw⟩
  · refine W.anew hx hb hown (ok_before hts hw) (va_AO.use hT0.2.2.1) rfl hd rfl hn1 (by rw [hn2]; omega) (by show n - n0 + 1 ≤ mc; omega) (by rw [hn2]; exact hs) fun cA kA comp f1 f2 f3 f4 => ?_
    rw [hn2]
    obtain ⟨_, _, -, -, -, g4⟩ := (hT0.1.2 4 _ rfl).2
    exact push cA (Option.some.inj (f1.symm.trans g4)) (Or.inl rfl)
  · refine W.anew hx hb hown (ok_before hts hw) (va_AO.use hT0.2.2.2) rfl hd rfl hn1 (by rw [hn2]; omega) (by show n - n0 + 1 ≤ mc; omega) (by rw [hn2]; exact hs) fun cA kA comp f1 f2 f3 f4 => ?_
    rw [hn2]
    obtain ⟨_, _, -, -, -, g4⟩ := (hT0.1.2 5 _ rfl).2
    exact push cA (Option.some.inj (f1.symm.trans g4)) (Or.inr rfl)
end K9
