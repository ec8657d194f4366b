theorem nar_b {w : Int} (h : -128 ≤ w ∧ w ≤ 127) : narrow .byte (.int (Int32.ofInt w)) = .int (Int32.ofInt w) := by
  show Value.int ((Int32.ofInt w).toInt8.toInt32) = _
  rw [n_i2b, Int.bmod_def]
  congr 2
  omega
theorem nar_z {w : Int} (h : 0 ≤ w ∧ w ≤ 1) : narrow .boolean (.int (Int32.ofInt w)) = .int (Int32.ofInt w) := by
  rcases n_bit h with rfl | rfl <;> rfl
section K8
variable {y : Mt} {own : String} {fr lo mc ms : Nat} {G : Cxt} {n0 : Nat} {Q : Mem → Option AV → Prop} {pc : Nat} {lc : List (Nat × AV)} {st : List AV} {μ : Mem} {n sl : Nat}
theorem put_back {H H1 : Heap} {o : Nat} {f : Int → Int} (h1 : hH G n μ H) (ho : o < n) (e : va_at (DG G) vwCl (b0 G + o, cont G o f) H1) (z : H1.size = H.size) (oq : ∀ q : Nat, q ≠ b0 G + o → H1[q]? = H[q]?) : hH G n (seto μ o f) H1 := by
  have hP := h1.1.set h1.2.1 (wrld_at ho) e oq
  have hD := h1.2.1.set (e := cont G o f) (wrld_at ho)
  rw [wrld_set] at hP hD
  exact ⟨hP, hD, by rw [z]; exact h1.2.2⟩
theorem AG_at {o : Nat} : AG G (b0 G + o) := Nat.le_add_right _ _
theorem k_putfield {idx ci f : Nat} {z w : Int} (hF : pOK y own idx ci f) (ha : atO n z ci f) (hw : fitZ (TYS ci f) w) (hd : decode y.2.1 pc = .ok (.putfield idx, 3)) (k : Vc y own fr lo mc ms G n0 Q (pc + 3) lc st (updm μ z.toNat f w) n sl) : Vc y own fr lo mc ms G n0 Q pc lc ((tgOf (TYS ci f), w) :: kR z :: st) μ n sl := by
  intro p l e s m args below meth c C H locs ls h1 h2 h3 h4
  have kk := fun H locs h1 h2 => k p l e s m args below meth c C H locs ls h1 h2 h3 h4
  obtain ⟨hx, hb, hml, hown, hts, hret, hlk, hnm, hT0, hS0, hsz⟩ := C
  obtain ⟨⟨z0, z1⟩, l1, l2⟩ := ha
  obtain ⟨⟨C, T, N⟩, q1, q2, q3, q4⟩ := hF
  obtain ⟨c1, c2, c3⟩ := cls_ok q1
  have hlt : z.toNat < n := by omega
  have hc : cont G z.toNat (μ z.toNat) = .inr (ci, fvs G ci (LAY z.toNat).2 (μ z.toNat)) := cont_obj (lay_eq l1)
  have hc2 : cont G z.toNat (upd1 (μ z.toNat) f w) = .inr (ci, fvs G ci (LAY z.toNat).2 (upd1 (μ z.toNat) f w)) := cont_obj (lay_eq l1)
  have hwa : (wrld G n μ)[z.toNat]? = some (b0 G + z.toNat, .inr (ci, fvs G ci (LAY z.toNat).2 (μ z.toNat))) := by
    rw [wrld_at hlt, hc]
  rw [List.map_cons, List.map_cons, cv_ref z0]
  have hin : ∀ w ∈ u_ws C T N, w ∈ ws_ y := fun w hw => ok_in (c1 w hw)
  have hap := va_apart (own := own) hts hin (TYS ci) c2 c3 hT0.1 q1
  obtain ⟨r, r1, cell, g1, g2, g3, g4⟩ := h1.1 z.toNat _ hwa
  have hr : r = (C, T, N) := Option.some.inj (r1.symm.trans q1)
  subst hr
  obtain ⟨hS, hfc, kC, hkC, hkind⟩ := hT0.1.1 ci _ q1
  obtain ⟨cf, kf, fi, fd, hi, hsl⟩ := hS f q2
  have hlay := hts _ (hin _ (u_in_lay q2))
  have hst := (u_facts hfc hkC (u_lays hts hin q2) hi).1
  obtain ⟨w1, w2⟩ := fitZ_ok (G := G) hw
  have hi' : s.fieldFound? C (T f).2.1 (T f).2.2.1 = some (cf, kf, fi, fd) := by
    have e1 : (T f).1 = C := q3
    rw [← e1]; exact hi
  have fin : ∀ H' : Heap, H'[b0 G + z.toNat]? = some (cell.setSlot (DG G |>.2 ci f) (cv G (tgOf (TYS ci f), w))) → H'.size = H.size → (∀ q, q ≠ b0 G + z.toNat → H'[q]? = H[q]?) → hH G n (updm μ z.toNat f w) H' := by
    intro H' e1 e2 e3
    refine put_back h1 hlt ?_ e2 e3
    rw [hc2]
    refine ⟨_, q1, t_OB.to (V := updV (vp_V (fvs G ci (LAY z.toNat).2 (μ z.toNat))) f (cv G (tgOf (TYS ci f), w))) ⟨_, e1, g2, g3, t_set g4 hap q2 _⟩ (fun j _ => ?_)⟩
    rw [← fvs_set]
    exact vp_updV_set (by simp [fvs]; exact l2) _ j
  rcases q4 with ⟨hf, hl⟩ | ⟨hf, hl, hin2, hdecl⟩
  · unfold u_lay at hlay
    rw [if_neg (by rw [hf]; decide)] at hlay
    have h6 := u_store hfc hkC hkind hlay hi (c2 f q2) w1 w2
    rcases hl with hl | ⟨host, hl⟩
    · refine W.putK hx hb (f := fd) ⟨hown, ok_before hts hl, ⟨_, _, _, hi'⟩, hst⟩ (by rw [g2]; exact h6) g1 g3 (by rw [hsl]; exact k2_hasslot (g4 f q2)) rfl rfl hd fun H' e1 e2 e3 => ?_
      rw [hsl] at e1 ⊢
      exact kk H' _ (fin H' e1 e2 e3) (h2.put e2 e3 AG_at)
    · refine va_WputK hx hb (f := fd) hown (nest_before hT0 hl rfl rfl) hi' hst (by rw [g2]; exact h6) g1 g3 (by rw [hsl]; exact k2_hasslot (g4 f q2)) rfl rfl hd fun H' e1 e2 e3 => ?_
      rw [hsl] at e1 ⊢
      exact kk H' _ (fin H' e1 e2 e3) (h2.put e2 e3 AG_at)
  · unfold u_lay at hlay
    rw [if_pos hf] at hlay
    have hcf : m.cls = cf := by
      obtain ⟨_, _, c', _, _, _, -, -, hf', -, -, -, hown2, -⟩ := Cond.laysFinal_spec hlay
      have e1 : c' = cf := by have := hi.symm.trans hf'; simp at this; exact this.1.symm
      have e2 : (T f).1 = own := q3.trans hdecl
      rw [e2] at hown2
      rw [← e1]; exact Option.some.inj (hown.symm.trans hown2)
    have h6 := u_fits hfc hkC hkind (Or.inr hlay) hi (c2 f q2) w1 w2
    refine W.putFinK hx hb hown (ok_before hts hl) hi' hst hcf (hnm.trans hin2) (by rw [g2]; exact h6) g1 g3 (by rw [hsl]; exact k2_hasslot (g4 f q2)) rfl rfl hd fun H' e1 e2 e3 => ?_
    rw [hsl] at e1 ⊢
    exact kk H' _ (fin H' e1 e2 e3) (h2.put e2 e3 AG_at)
theorem cont_0 {o N : Nat} {f : Int → Int} (h : LAY o = (0, N)) : cont G o f = .inl (G.2.2.1 0, N, .inl fun j => Int32.ofInt (f j)) := by
  unfold cont
  rw [h]
  rfl
theorem cont_1 {o N : Nat} {f : Int → Int} (h : LAY o = (1, N)) : cont G o f = .inl (G.2.2.1 1, N, .inr (.inl fun j => Int64.ofInt (f j))) := by
  unfold cont
  rw [h]
  rfl
theorem cont_2 {o N : Nat} {f : Int → Int} (h : LAY o = (2, N)) : cont G o f = .inl (G.2.2.1 2, N, .inl fun j => Int32.ofInt (f j)) := by
  unfold cont
  rw [h]
  rfl
theorem cont_3 {o N : Nat} {f : Int → Int} (h : LAY o = (3, N)) : cont G o f = .inl (G.2.2.1 3, N, .inl fun j => Int32.ofInt (f j)) := by
  unfold cont
  rw [h]
  rfl
theorem cont_4 {o N : Nat} {f : Int → Int} (h : LAY o = (4, N)) : cont G o f = .inl (G.2.2.1 4, N, .inr (.inr (.inr (.inr fun j => rfo G (f j))))) := by
  unfold cont
  rw [h]
  rfl
theorem cont_5 {o N : Nat} {f : Int → Int} (h : LAY o = (5, N)) : cont G o f = .inl (G.2.2.1 5, N, .inr (.inr (.inr (.inr fun j => rfo G (f j))))) := by
  unfold cont
  rw [h]
  rfl
theorem k_iaload {z j : Int} (ha : atA n z 0 j) (hd : decode y.2.1 pc = .ok (.iaload, 1)) (k : Vc y own fr lo mc ms G n0 Q (pc + 1) lc ((0, μ z.toNat j) :: st) μ n sl) : Vc y own fr lo mc ms G n0 Q pc lc (kI j :: kR z :: st) μ n sl := by
  intro p l e s m args below meth c C H locs ls h1 h2 h3 h4
  have kk := k p l e s m args below meth c C H locs ls h1 h2 h3 h4
  have hlt : z.toNat < n := by have := ha.1; omega
  have hwa : (wrld G n μ)[z.toNat]? = some (b0 G + z.toNat, .inl (G.2.2.1 0, (LAY z.toNat).2, .inl fun j => Int32.ofInt (μ z.toNat j))) := by
    rw [wrld_at hlt, cont_0 (lay_eq ha.2.1)]
  rw [List.map_cons, List.map_cons, cv_ref ha.1.1]
  refine va_iald C.1 C.2.1 C.2.2.2.2.2.2.2.2.1.1 h1.1 z.toNat 0 hwa rfl ha.in hd ?_
  rw [ha.cl, Int.toNat_of_nonneg ha.2.2.1]
  exact kk
theorem k_laload {z j : Int} (ha : atA n z 1 j) (hd : decode y.2.1 pc = .ok (.laload, 1)) (k : Vc y own fr lo mc ms G n0 Q (pc + 1) lc ((1, μ z.toNat j) :: st) μ n sl) : Vc y own fr lo mc ms G n0 Q pc lc (kI j :: kR z :: st) μ n sl := by
  intro p l e s m args below meth c C H locs ls h1 h2 h3 h4
  have kk := k p l e s m args below meth c C H locs ls h1 h2 h3 h4
  have hlt : z.toNat < n := by have := ha.1; omega
  have hwa : (wrld G n μ)[z.toNat]? = some (b0 G + z.toNat, .inl (G.2.2.1 1, (LAY z.toNat).2, .inr (.inl fun j => Int64.ofInt (μ z.toNat j)))) := by
    rw [wrld_at hlt, cont_1 (lay_eq ha.2.1)]
  rw [List.map_cons, List.map_cons, cv_ref ha.1.1]
  refine va_lald C.1 C.2.1 C.2.2.2.2.2.2.2.2.1.1 h1.1 z.toNat 1 hwa rfl ha.in hd ?_
  rw [ha.cl, Int.toNat_of_nonneg ha.2.2.1]
  exact kk
theorem k_baload {z j : Int} (ha : atA n z 2 j) (hd : decode y.2.1 pc = .ok (.baload, 1)) (k : Vc y own fr lo mc ms G n0 Q (pc + 1) lc ((0, μ z.toNat j) :: st) μ n sl) : Vc y own fr lo mc ms G n0 Q pc lc (kI j :: kR z :: st) μ n sl := by
  intro p l e s m args below meth c C H locs ls h1 h2 h3 h4
  have kk := k p l e s m args below meth c C H locs ls h1 h2 h3 h4
  have hlt : z.toNat < n := by have := ha.1; omega
  have hwa : (wrld G n μ)[z.toNat]? = some (b0 G + z.toNat, .inl (G.2.2.1 2, (LAY z.toNat).2, .inl fun j => Int32.ofInt (μ z.toNat j))) := by
    rw [wrld_at hlt, cont_2 (lay_eq ha.2.1)]
  rw [List.map_cons, List.map_cons, cv_ref ha.1.1]
  refine va_bald C.1 C.2.1 C.2.2.2.2.2.2.2.2.1.1 h1.1 z.toNat 2 hwa rfl ha.in hd ?_
  rw [ha.cl, Int.toNat_of_nonneg ha.2.2.1]
  exact kk
theorem k_zaload {z j : Int} (ha : atA n z 3 j) (hd : decode y.2.1 pc = .ok (.baload, 1)) (k : Vc y own fr lo mc ms G n0 Q (pc + 1) lc ((0, μ z.toNat j) :: st) μ n sl) : Vc y own fr lo mc ms G n0 Q pc lc (kI j :: kR z :: st) μ n sl := by
  intro p l e s m args below meth c C H locs ls h1 h2 h3 h4
  have kk := k p l e s m args below meth c C H locs ls h1 h2 h3 h4
  have hlt : z.toNat < n := by have := ha.1; omega
  have hwa : (wrld G n μ)[z.toNat]? = some (b0 G + z.toNat, .inl (G.2.2.1 3, (LAY z.toNat).2, .inl fun j => Int32.ofInt (μ z.toNat j))) := by
    rw [wrld_at hlt, cont_3 (lay_eq ha.2.1)]
  rw [List.map_cons, List.map_cons, cv_ref ha.1.1]
  refine va_zald C.1 C.2.1 C.2.2.2.2.2.2.2.2.1.1 h1.1 z.toNat 3 hwa rfl ha.in hd ?_
  rw [ha.cl, Int.toNat_of_nonneg ha.2.2.1]
  exact kk
theorem k_taload {z j : Int} (ha : atA n z 4 j) (hd : decode y.2.1 pc = .ok (.aaload, 1)) (k : Vc y own fr lo mc ms G n0 Q (pc + 1) lc ((2, μ z.toNat j) :: st) μ n sl) : Vc y own fr lo mc ms G n0 Q pc lc (kI j :: kR z :: st) μ n sl := by
  intro p l e s m args below meth c C H locs ls h1 h2 h3 h4
  have kk := k p l e s m args below meth c C H locs ls h1 h2 h3 h4
  have hlt : z.toNat < n := by have := ha.1; omega
  have hwa : (wrld G n μ)[z.toNat]? = some (b0 G + z.toNat, .inl (G.2.2.1 4, (LAY z.toNat).2, .inr (.inr (.inr (.inr fun j => rfo G (μ z.toNat j)))))) := by
    rw [wrld_at hlt, cont_4 (lay_eq ha.2.1)]
  rw [List.map_cons, List.map_cons, cv_ref ha.1.1]
  refine va_aldq C.1 C.2.1 C.2.2.2.2.2.2.2.2.1.1 h1.1 z.toNat 4 hwa rfl ha.in hd ?_
  rw [ha.cl, Int.toNat_of_nonneg ha.2.2.1]
  exact kk
theorem k_waload {z j : Int} (ha : atA n z 5 j) (hd : decode y.2.1 pc = .ok (.aaload, 1)) (k : Vc y own fr lo mc ms G n0 Q (pc + 1) lc ((2, μ z.toNat j) :: st) μ n sl) : Vc y own fr lo mc ms G n0 Q pc lc (kI j :: kR z :: st) μ n sl := by
  intro p l e s m args below meth c C H locs ls h1 h2 h3 h4
  have kk := k p l e s m args below meth c C H locs ls h1 h2 h3 h4
  have hlt : z.toNat < n := by have := ha.1; omega
  have hwa : (wrld G n μ)[z.toNat]? = some (b0 G + z.toNat, .inl (G.2.2.1 5, (LAY z.toNat).2, .inr (.inr (.inr (.inr fun j => rfo G (μ z.toNat j)))))) := by
    rw [wrld_at hlt, cont_5 (lay_eq ha.2.1)]
  rw [List.map_cons, List.map_cons, cv_ref ha.1.1]
  refine va_aldq C.1 C.2.1 C.2.2.2.2.2.2.2.2.1.1 h1.1 z.toNat 5 hwa rfl ha.in hd ?_
  rw [ha.cl, Int.toNat_of_nonneg ha.2.2.1]
  exact kk
theorem k_iastore {z j w : Int} (ha : atA n z 0 j) (hd : decode y.2.1 pc = .ok (.iastore, 1)) (k : Vc y own fr lo mc ms G n0 Q (pc + 1) lc st (updm μ z.toNat j w) n sl) : Vc y own fr lo mc ms G n0 Q pc lc ((0, w) :: kI j :: kR z :: st) μ n sl := by
  intro p l e s m args below meth c C H locs ls h1 h2 h3 h4
  have kk := fun H locs h1 h2 => k p l e s m args below meth c C H locs ls h1 h2 h3 h4
  have hlt : z.toNat < n := by have := ha.1; omega
  have hwa : (wrld G n μ)[z.toNat]? = some (b0 G + z.toNat, .inl (G.2.2.1 0, (LAY z.toNat).2, .inl fun j => Int32.ofInt (μ z.toNat j))) := by
    rw [wrld_at hlt, cont_0 (lay_eq ha.2.1)]
  rw [List.map_cons, List.map_cons, List.map_cons, cv_ref ha.1.1]
  have hK := C.2.2.2.2.2.2.2.2.1.1
  have hj := ha.cl
  refine W.iast C.1 C.2.1 (h1.1 z.toNat _ hwa) ((hK.2 0 _ rfl).1 _ (fun j => Value.int <| Int32.ofInt (μ z.toNat j))) (fun q => by cases q) (by show ¬ (_ < 0 ∨ (arrV _ _ _).slots.size ≤ _); rw [arrV_size]; exact ha.in) rfl rfl hd fun H1 e3 z3 oq => ?_
  refine kk H1 _ (put_back h1 hlt ?_ z3 oq) (h2.put z3 oq AG_at)
  rw [cont_0 (lay_eq ha.2.1)]
  show H1[_]? = some (vp_cell _ _)
  rw [e3, hj]
  show some ((arrV (G.2.2.1 0) (LAY z.toNat).2 (fun q => Value.int (Int32.ofInt (μ z.toNat q)))).setSlot j.toNat (Value.int (Int32.ofInt w))) = some (arrV (G.2.2.1 0) (LAY z.toNat).2 (fun q => Value.int (Int32.ofInt (upd1 (μ z.toNat) j w q))))
  rw [arrV_store]
  congr 2
  funext q
  by_cases hq : q = j.toNat
  · subst hq
    have h0 := ha.2.2.1
    have e0 : ((j.toNat : Nat) : Int) = j := Int.toNat_of_nonneg h0
    simp [updV, upd1, e0]
  · have h0 := ha.2.2.1
    have hq' : ¬ (q : Int) = j := by omega
    simp [updV, upd1, hq, hq']
theorem k_lastore {z j w : Int} (ha : atA n z 1 j) (hd : decode y.2.1 pc = .ok (.lastore, 1)) (k : Vc y own fr lo mc ms G n0 Q (pc + 1) lc st (updm μ z.toNat j w) n sl) : Vc y own fr lo mc ms G n0 Q pc lc ((1, w) :: kI j :: kR z :: st) μ n sl := by
  intro p l e s m args below meth c C H locs ls h1 h2 h3 h4
  have kk := fun H locs h1 h2 => k p l e s m args below meth c C H locs ls h1 h2 h3 h4
  have hlt : z.toNat < n := by have := ha.1; omega
  have hwa : (wrld G n μ)[z.toNat]? = some (b0 G + z.toNat, .inl (G.2.2.1 1, (LAY z.toNat).2, .inr (.inl fun j => Int64.ofInt (μ z.toNat j)))) := by
    rw [wrld_at hlt, cont_1 (lay_eq ha.2.1)]
  rw [List.map_cons, List.map_cons, List.map_cons, cv_ref ha.1.1]
  have hK := C.2.2.2.2.2.2.2.2.1.1
  have hj := ha.cl
  refine W.last C.1 C.2.1 (h1.1 z.toNat _ hwa) ((hK.2 1 _ rfl).1 _ (fun j => Value.long <| Int64.ofInt (μ z.toNat j))) (fun q => by cases q) (by show ¬ (_ < 0 ∨ (arrV _ _ _).slots.size ≤ _); rw [arrV_size]; exact ha.in) rfl rfl hd fun H1 e3 z3 oq => ?_
  refine kk H1 _ (put_back h1 hlt ?_ z3 oq) (h2.put z3 oq AG_at)
  rw [cont_1 (lay_eq ha.2.1)]
  show H1[_]? = some (vp_cell _ _)
  rw [e3, hj]
  show some ((arrV (G.2.2.1 1) (LAY z.toNat).2 (fun q => Value.long (Int64.ofInt (μ z.toNat q)))).setSlot j.toNat (Value.long (Int64.ofInt w))) = some (arrV (G.2.2.1 1) (LAY z.toNat).2 (fun q => Value.long (Int64.ofInt (upd1 (μ z.toNat) j w q))))
  rw [arrV_store]
  congr 2
  funext q
  by_cases hq : q = j.toNat
  · subst hq
    have h0 := ha.2.2.1
    have e0 : ((j.toNat : Nat) : Int) = j := Int.toNat_of_nonneg h0
    simp [updV, upd1, e0]
  · have h0 := ha.2.2.1
    have hq' : ¬ (q : Int) = j := by omega
    simp [updV, upd1, hq, hq']
theorem k_bastore {z j w : Int} (ha : atA n z 2 j) (hw : -128 ≤ w ∧ w ≤ 127) (hd : decode y.2.1 pc = .ok (.bastore, 1)) (k : Vc y own fr lo mc ms G n0 Q (pc + 1) lc st (updm μ z.toNat j w) n sl) : Vc y own fr lo mc ms G n0 Q pc lc ((0, w) :: kI j :: kR z :: st) μ n sl := by
  intro p l e s m args below meth c C H locs ls h1 h2 h3 h4
  have kk := fun H locs h1 h2 => k p l e s m args below meth c C H locs ls h1 h2 h3 h4
  have hlt : z.toNat < n := by have := ha.1; omega
  have hwa : (wrld G n μ)[z.toNat]? = some (b0 G + z.toNat, .inl (G.2.2.1 2, (LAY z.toNat).2, .inl fun j => Int32.ofInt (μ z.toNat j))) := by
    rw [wrld_at hlt, cont_2 (lay_eq ha.2.1)]
  rw [List.map_cons, List.map_cons, List.map_cons, cv_ref ha.1.1]
  have hK := C.2.2.2.2.2.2.2.2.1.1
  have hj := ha.cl
  refine W.bast C.1 C.2.1 (h1.1 z.toNat _ hwa) ((hK.2 2 _ rfl).1 _ (fun j => Value.int <| Int32.ofInt (μ z.toNat j))) (fun q => by cases q) (by show ¬ (_ < 0 ∨ (arrV _ _ _).slots.size ≤ _); rw [arrV_size]; exact ha.in) rfl rfl hd fun H1 e3 z3 oq => ?_
  refine kk H1 _ (put_back h1 hlt ?_ z3 oq) (h2.put z3 oq AG_at)
  rw [cont_2 (lay_eq ha.2.1)]
  show H1[_]? = some (vp_cell _ _)
  rw [e3, hj]
  rw [nar_b hw]
  show some ((arrV (G.2.2.1 2) (LAY z.toNat).2 (fun q => Value.int (Int32.ofInt (μ z.toNat q)))).setSlot j.toNat (Value.int (Int32.ofInt w))) = some (arrV (G.2.2.1 2) (LAY z.toNat).2 (fun q => Value.int (Int32.ofInt (upd1 (μ z.toNat) j w q))))
  rw [arrV_store]
  congr 2
  funext q
  by_cases hq : q = j.toNat
  · subst hq
    have h0 := ha.2.2.1
    have e0 : ((j.toNat : Nat) : Int) = j := Int.toNat_of_nonneg h0
    simp [updV, upd1, e0]
  · have h0 := ha.2.2.1
    have hq' : ¬ (q : Int) = j := by omega
    simp [updV, upd1, hq, hq']
theorem k_zastore {z j w : Int} (ha : atA n z 3 j) (hw : 0 ≤ w ∧ w ≤ 1) (hd : decode y.2.1 pc = .ok (.bastore, 1)) (k : Vc y own fr lo mc ms G n0 Q (pc + 1) lc st (updm μ z.toNat j w) n sl) : Vc y own fr lo mc ms G n0 Q pc lc ((0, w) :: kI j :: kR z :: st) μ n sl := by
  intro p l e s m args below meth c C H locs ls h1 h2 h3 h4
  have kk := fun H locs h1 h2 => k p l e s m args below meth c C H locs ls h1 h2 h3 h4
  have hlt : z.toNat < n := by have := ha.1; omega
  have hwa : (wrld G n μ)[z.toNat]? = some (b0 G + z.toNat, .inl (G.2.2.1 3, (LAY z.toNat).2, .inl fun j => Int32.ofInt (μ z.toNat j))) := by
    rw [wrld_at hlt, cont_3 (lay_eq ha.2.1)]
  rw [List.map_cons, List.map_cons, List.map_cons, cv_ref ha.1.1]
  have hK := C.2.2.2.2.2.2.2.2.1.1
  have hj := ha.cl
  refine W.zast C.1 C.2.1 (h1.1 z.toNat _ hwa) ((hK.2 3 _ rfl).1 _ (fun j => Value.int <| Int32.ofInt (μ z.toNat j))) (fun q => by cases q) (by show ¬ (_ < 0 ∨ (arrV _ _ _).slots.size ≤ _); rw [arrV_size]; exact ha.in) rfl rfl hd fun H1 e3 z3 oq => ?_
  refine kk H1 _ (put_back h1 hlt ?_ z3 oq) (h2.put z3 oq AG_at)
  rw [cont_3 (lay_eq ha.2.1)]
  show H1[_]? = some (vp_cell _ _)
  rw [e3, hj]
  rw [nar_z hw]
  show some ((arrV (G.2.2.1 3) (LAY z.toNat).2 (fun q => Value.int (Int32.ofInt (μ z.toNat q)))).setSlot j.toNat (Value.int (Int32.ofInt w))) = some (arrV (G.2.2.1 3) (LAY z.toNat).2 (fun q => Value.int (Int32.ofInt (upd1 (μ z.toNat) j w q))))
  rw [arrV_store]
  congr 2
  funext q
  by_cases hq : q = j.toNat
  · subst hq
    have h0 := ha.2.2.1
    have e0 : ((j.toNat : Nat) : Int) = j := Int.toNat_of_nonneg h0
    simp [updV, upd1, e0]
  · have h0 := ha.2.2.1
    have hq' : ¬ (q : Int) = j := by omega
    simp [updV, upd1, hq, hq']
end K8
