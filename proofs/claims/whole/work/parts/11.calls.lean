theorem hT_warm {G : Cxt} {s U : State} (hW : s.WarmedH U.vm) (h : hT G s) : hT G U := by
  obtain ⟨h1, h2, h3, h4⟩ := h
  refine ⟨va_K.moved hW.alike h1, fun w hw hn => ?_, va_AO.moved hW.alike h3, va_AO.moved hW.alike h4⟩
  have := h2 w hw hn
  cases w with
  | fieldLinkNest a i b n d h => exact va_Nw.warmF hW this
  | methodLinkNest a i x h => exact va_Nw.warmM hW this
  | _ => exact absurd hn (by simp [isNest])
theorem hT_call {G : Cxt} {U : State} {g : JFrame} {mk : MethodId} {a : Array Value} (h : hT G U) : hT G (U.calling g mk a) := by
  obtain ⟨h1, h2, h3, h4⟩ := h
  refine ⟨va_K.moved (u := U) (U := U.calling g mk a) (Vm.Alike.refl U.vm) h1, fun w hw hn => ?_, va_AO.moved (u := U) (U := U.calling g mk a) (Vm.Alike.refl U.vm) h3, va_AO.moved (u := U) (U := U.calling g mk a) (Vm.Alike.refl U.vm) h4⟩
  have := h2 w hw hn
  cases w with
  | fieldLinkNest a i b n d h => exact va_Nw.same rfl rfl this
  | methodLinkNest a i x h => exact va_Nw.same rfl rfl this
  | _ => exact absurd hn (by simp [isNest])
theorem hS_alike {G : Cxt} {s U : State} {H : Heap} (hvm : s.vm.Alike U.vm) (h : hS G s H) : hS G U H := ⟨fun k hk => ⟨va_Z.moved hvm (h.1 k hk).1, va_T.moved hvm (h.1 k hk).2⟩, va_T.moved hvm h.2⟩
theorem hS_kept {G : Cxt} {s : State} {H H1 : Heap} (h : hS G s H) (hq : ∀ a : Nat, a < H.size → ¬ AG G a → H1[a]? = H[a]?) : hS G s H1 := ⟨fun k hk => ⟨va_Z.kept (h.1 k hk).1 hq, va_T.kept (h.1 k hk).2 hq⟩, va_T.kept h.2 hq⟩
theorem hAll_blind {G : Cxt} {n : Nat} {μ : Mem} {as : List Value} : FrameBlind (va_Pc as (hAll G n μ)) := by
  intro a U g mk h
  obtain ⟨h0, h1, h2, h3⟩ := h
  exact ⟨h0, h1, hT_call h2, hS_alike (U := U.calling g mk a) (Vm.Alike.refl U.vm) h3⟩
section K11
variable {y : Mt} {own : String} {fr lo mc ms : Nat} {G : Cxt} {n0 : Nat} {Q : Mem → Option AV → Prop} {pc : Nat} {lc : List (Nat × AV)} {st : List AV} {μ : Mem} {n sl : Nat}
theorem hAll_at {s U : State} {H : Heap} {locs : List Loc} (h1 : hH G n μ H) (hT0 : hT G s) (hS0 : hS G s s.heap) (h2 : va_S (AG G) s.heap H locs) (hU : U.heap = H) (hW : s.WarmedH U.vm) : hAll G n μ U :=
  ⟨by rw [hU]; exact h1, hT_warm hW hT0, by rw [hU]; exact hS_alike hW.alike (hS_kept hS0 h2.2.1)⟩
/-- a town put into an array of towns, a world into one of worlds -/
theorem k_aastore {kd ci : Nat} {z j w : Int} (hk : (kd = 4 ∧ ci = 7) ∨ (kd = 5 ∧ ci = 9)) (ha : atA n z kd j) (hw : atO n w ci 0) (hd : decode y.2.1 pc = .ok (.aastore, 1)) (k : Vc y own fr lo mc ms G n0 Q (pc + 1) lc st (updm μ z.toNat j w) n sl) : Vc y own fr lo mc ms G n0 Q pc lc (kR w :: kI j :: kR z :: st) μ n sl := by
  intro p l e s m args below meth c C H locs ls h1 h2 h3 h4
  have kk := fun H locs h1 h2 => k p l e s m args below meth c C H locs ls h1 h2 h3 h4
  obtain ⟨hx, hb, hml, hown, hts, hret, hlk, hnm, hT0, hS0, hsz⟩ := C
  have hlt : z.toNat < n := by have := ha.1; omega
  have hlw : w.toNat < n := by have := hw.1; omega
  have hw2 := h1.1 w.toNat _ (wrld_at hlw)
  rw [cont_obj (lay_eq hw.2.1)] at hw2
  obtain ⟨r', hr', cellV, g1, g2, g3, -⟩ := hw2
  rw [List.map_cons, List.map_cons, List.map_cons, cv_ref ha.1.1, cv_ref hw.1.1]
  have hj0 : ¬ Int32.ofInt j < 0 := fun q => ha.in (Or.inl q)
  have key : ∀ (C : String) (T : u_T) (N : Nat), vwCl[ci]? = some (C, T, N) → (∃ t0 : Nat, (tysG G)[t0]? = some (G.2.2.1 kd, .object C)) → (∀ f : Int → Int, cont G z.toNat f = .inl (G.2.2.1 kd, (LAY z.toNat).2, .inr (.inr (.inr (.inr fun j => rfo G (f j)))))) → W p l e (rmk fr lo mc ms) s m args below meth c H locs (n - n0) sl (MQ below (QcOf G (n0 + mc) Q) args s mc ms (AG G)) (F0 m pc ls (.ref (b0 G + w.toNat) :: .int (Int32.ofInt j) :: .ref (b0 G + z.toNat) :: st.map (cv G))) := by
    intro C T N hC hty hcont
    obtain ⟨t0, ht0⟩ := hty
    have hcls := (hT0.1.1 ci _ hC).2
    obtain ⟨kA, comp, k1, k2, k3, -⟩ := (hT0.1.2 t0 _ ht0).2
    have hcomp : comp = (DG G).1 ci := Option.some.inj (k3.symm.trans hcls.1)
    subst hcomp
    obtain ⟨kC, hkC, -⟩ := hcls.2
    have hza := h1.1 z.toNat _ (wrld_at hlt)
    rw [hcont] at hza
    have hza : H[b0 G + z.toNat]? = some (arrV (G.2.2.1 kd) (LAY z.toNat).2 (fun j => va_rf (rfo G (μ z.toNat j)))) := hza
    refine W.aast hx hb hza (fun q h => by cases h) (fun h => by cases h) k1 k2 rfl hkC ⟨hj0, by rw [arrV_size, ha.cl]; have := ha.2.2; omega⟩ g1 (fun q h => by rw [g3] at h; cases h) (by rw [g2]; exact hkC) (by rw [g2]; exact va_assign hcls) rfl rfl hd fun H1 e z3 oq => ?_
    refine kk H1 _ (put_back h1 hlt ?_ z3 oq) (h2.put z3 oq AG_at)
    rw [hcont]
    show H1[_]? = some (arrV (G.2.2.1 kd) (LAY z.toNat).2 (fun q => va_rf (rfo G (upd1 (μ z.toNat) j w q))))
    rw [e, ha.cl, arrV_store]
    congr 2
    funext q
    have h0 := ha.2.2.1
    by_cases hq : q = j.toNat
    · subst hq
      have e0 : ((j.toNat : Nat) : Int) = j := Int.toNat_of_nonneg h0
      have hwn : ¬ w < 0 := by have := hw.1.1; omega
      simp [updV, upd1, e0, rfo, hwn, va_rf]
    · have hq' : ¬ (q : Int) = j := by omega
      simp [updV, upd1, hq, hq']
  rcases hk with ⟨rfl, rfl⟩ | ⟨rfl, rfl⟩
  · exact key RX7 TX7 18 rfl ⟨4, rfl⟩ (fun f => cont_4 (lay_eq ha.2.1))
  · exact key RX9 TX9 11 rfl ⟨5, rfl⟩ (fun f => cont_5 (lay_eq ha.2.1))
theorem k_getstatic {idx k0 : Nat} (hk : k0 < 8) (hl : Cond.fieldLink own idx RX10 (SL k0).1 (SL k0).2.1 ∈ lw_ok ∨ ∃ host, Cond.fieldLinkNest own idx RX10 (SL k0).1 (SL k0).2.1 host ∈ lw_tbl) (hd : decode y.2.1 pc = .ok (.getstatic idx, 3)) (k : Vc y own fr lo mc ms G n0 Q (pc + 3) lc (kS k0 :: st) μ n sl) : Vc y own fr lo mc ms G n0 Q pc lc st μ n sl := by
  intro p l e s m args below meth c C H locs ls h1 h2 h3 h4
  have kk := k p l e s m args below meth c C H locs ls h1 h2 h3 h4
  obtain ⟨hx, hb, hml, hown, hts, hret, hlk, hnm, hT0, hS0, hsz⟩ := C
  rcases hl with hl | ⟨host, hl⟩
  · exact va_gets hx hb (hS0.1 k0 hk).1 h2 hown (ok_before hts hl) (fun x h => h) hd kk
  · exact va_getsN hx hb (hS0.1 k0 hk).1 h2 hown (nest_before hT0 hl rfl rfl) (fun x h => h) hd kk
/-- a place of a static array -/
def atS (z : Int) (kd : Nat) (j : Int) : Prop := (0 ≤ z ∧ z < 8) ∧ (SL z.toNat).2.2.1 = kd ∧ 0 ≤ j ∧ j < (SN z.toNat : Int)
theorem sl_small : ∀ k, SN k ≤ 6 := by
  intro k
  unfold SN SL
  split <;> decide
theorem atS.r {z j : Int} {kd : Nat} (h : atS z kd j) : r32 j := by
  have h2 := sl_small z.toNat
  obtain ⟨-, -, h3, h4⟩ := h
  unfold r32
  omega
theorem k_iaload_s {z j : Int} (ha : atS z 0 j) (hd : decode y.2.1 pc = .ok (.iaload, 1)) (k : Vc y own fr lo mc ms G n0 Q (pc + 1) lc (kI (SV z.toNat j) :: st) μ n sl) : Vc y own fr lo mc ms G n0 Q pc lc (kI j :: kS z :: st) μ n sl := by
  intro p l e s m args below meth c C H locs ls h1 h2 h3 h4
  have kk := k p l e s m args below meth c C H locs ls h1 h2 h3 h4
  obtain ⟨hx, hb, hml, hown, hts, hret, hlk, hnm, hT0, hS0, hsz⟩ := C
  have hty : ST z.toNat = .int := by unfold ST; rw [ha.2.1]; rfl
  obtain ⟨cell, c1, c2, c3, c4, c5, c6, c7⟩ := va_T.kept (hS0.1 z.toNat (by have := ha.1; omega)).2 h2.2.1
  rw [hty] at c2
  have hin := n_in ha.r ha.2.2.1 ha.2.2.2
  have hcl : (Int32.ofInt j).toNatClampNeg = j.toNat := n_clamp ha.r ha.2.2.1
  have hj : j.toNat < SN z.toNat := by have := ha.2.2; omega
  refine W.iald (v := .int (Int32.ofInt (SV z.toNat j))) hx hb c1 c2 c3 (fun h => hin (h.imp id (fun q => Nat.le_trans c4 q))) ?_ rfl rfl hd kk
  rw [hcl, c6 j.toNat hj]
  show some (Value.int (Int32.ofInt (SV z.toNat ((j.toNat : Nat) : Int)))) = _
  rw [Int.toNat_of_nonneg ha.2.2.1]
theorem k_caload_s {z j : Int} (ha : atS z 6 j) (hd : decode y.2.1 pc = .ok (.caload, 1)) (k : Vc y own fr lo mc ms G n0 Q (pc + 1) lc (kI (SV z.toNat j) :: st) μ n sl) : Vc y own fr lo mc ms G n0 Q pc lc (kI j :: kS z :: st) μ n sl := by
  intro p l e s m args below meth c C H locs ls h1 h2 h3 h4
  have kk := k p l e s m args below meth c C H locs ls h1 h2 h3 h4
  obtain ⟨hx, hb, hml, hown, hts, hret, hlk, hnm, hT0, hS0, hsz⟩ := C
  have hty : ST z.toNat = .char := by unfold ST; rw [ha.2.1]; rfl
  obtain ⟨cell, c1, c2, c3, c4, c5, c6, c7⟩ := va_T.kept (hS0.1 z.toNat (by have := ha.1; omega)).2 h2.2.1
  rw [hty] at c2
  have hin := n_in ha.r ha.2.2.1 ha.2.2.2
  have hcl : (Int32.ofInt j).toNatClampNeg = j.toNat := n_clamp ha.r ha.2.2.1
  have hj : j.toNat < SN z.toNat := by have := ha.2.2; omega
  refine W.cald (v := .int (Int32.ofInt (SV z.toNat j))) hx hb c1 c2 c3 (fun h => hin (h.imp id (fun q => Nat.le_trans c4 q))) ?_ rfl rfl hd kk
  rw [hcl, c6 j.toNat hj]
  show some (Value.int (Int32.ofInt (SV z.toNat ((j.toNat : Nat) : Int)))) = _
  rw [Int.toNat_of_nonneg ha.2.2.1]
theorem k_alen_s {z : Int} (ha : 0 ≤ z ∧ z < 8) (hd : decode y.2.1 pc = .ok (.arraylength, 1)) (k : Vc y own fr lo mc ms G n0 Q (pc + 1) lc (kI (SN z.toNat) :: st) μ n sl) : Vc y own fr lo mc ms G n0 Q pc lc (kS z :: st) μ n sl := by
  intro p l e s m args below meth c C H locs ls h1 h2 h3 h4
  have kk := k p l e s m args below meth c C H locs ls h1 h2 h3 h4
  obtain ⟨hx, hb, hml, hown, hts, hret, hlk, hnm, hT0, hS0, hsz⟩ := C
  obtain ⟨cell, c1, c2, c3, c4, c5, c6, c7⟩ := va_T.kept (hS0.1 z.toNat (by omega)).2 h2.2.1
  exact W.alen hx hb c1 c2 (c5.trans (by rfl)) rfl rfl hd kk
theorem k_alen {z : Int} {kd : Nat} (ha : (0 ≤ z ∧ z < (n : Int)) ∧ (LAY z.toNat).1 = kd ∧ kd ≤ 3) (hd : decode y.2.1 pc = .ok (.arraylength, 1)) (k : Vc y own fr lo mc ms G n0 Q (pc + 1) lc (kI (LAY z.toNat).2 :: st) μ n sl) : Vc y own fr lo mc ms G n0 Q pc lc (kR z :: st) μ n sl := by
  intro p l e s m args below meth c C H locs ls h1 h2 h3 h4
  have kk := k p l e s m args below meth c C H locs ls h1 h2 h3 h4
  obtain ⟨hx, hb, hml, hown, hts, hret, hlk, hnm, hT0, hS0, hsz⟩ := C
  have hlt : z.toNat < n := by omega
  rw [List.map_cons, cv_ref ha.1.1]
  have hc := (arr_at (H := H) ha.2.2 (lay_eq ha.2.1)).mp (h1.1 _ _ (wrld_at hlt))
  exact W.alen hx hb hc (arr_ty ha.2.2 hT0 _ _) (by rw [arrV_size]; rfl) rfl rfl hd kk
theorem k_ldc {idx : Nat} {z : Int} (hl : Cond.constant own idx (Int32.ofInt z) ∈ lw_ok) (hd : decode y.2.1 pc = .ok (.ldc idx, 2)) (k : Vc y own fr lo mc ms G n0 Q (pc + 2) lc (kI z :: st) μ n sl) : Vc y own fr lo mc ms G n0 Q pc lc st μ n sl := by
  intro p l e s m args below meth c C H locs ls h1 h2 h3 h4
  exact lv_ldc C.1 C.2.1 C.2.2.2.1 (ok_before C.2.2.2.2.1 hl) hd (k p l e s m args below meth c C H locs ls h1 h2 h3 h4)
theorem k_ldcw {idx : Nat} {z : Int} (hl : Cond.constant own idx (Int32.ofInt z) ∈ lw_ok) (hd : decode y.2.1 pc = .ok (.ldc_w idx, 3)) (k : Vc y own fr lo mc ms G n0 Q (pc + 3) lc (kI z :: st) μ n sl) : Vc y own fr lo mc ms G n0 Q pc lc st μ n sl := by
  intro p l e s m args below meth c C H locs ls h1 h2 h3 h4
  exact lv_ldcw C.1 C.2.1 C.2.2.2.1 (ok_before C.2.2.2.2.1 hl) hd (k p l e s m args below meth c C H locs ls h1 h2 h3 h4)
theorem k_ldc2 {idx : Nat} {z : Int} (hl : Cond.constantLong own idx (Int64.ofInt z) ∈ lw_ok) (hd : decode y.2.1 pc = .ok (.ldc2_w idx, 3)) (k : Vc y own fr lo mc ms G n0 Q (pc + 3) lc (kL z :: st) μ n sl) : Vc y own fr lo mc ms G n0 Q pc lc st μ n sl := by
  intro p l e s m args below meth c C H locs ls h1 h2 h3 h4
  exact lv_ldc2 C.1 C.2.1 C.2.2.2.1 (ok_before C.2.2.2.2.1 hl) hd (k p l e s m args below meth c C H locs ls h1 h2 h3 h4)
theorem k_tswitch {dflt lo' hi : Int} {offs : Array Int} {len : Nat} {a : Int} (ha : r32 a) (hz : (offs.size : Int) = hi - lo' + 1) (h0 : 0 ≤ (pc : Int) + dflt) (h0' : ∀ o ∈ offs.toList, 0 ≤ (pc : Int) + o) (hd : decode y.2.1 pc = .ok (.tableswitch dflt lo' hi offs, len))
    (kd : a < lo' ∨ hi < a → Vc y own fr lo mc ms G n0 Q ((pc : Int) + dflt).toNat lc st μ n sl) (ki : ∀ (j : Nat) (o : Int), offs.toList[j]? = some o → a = lo' + j → Vc y own fr lo mc ms G n0 Q ((pc : Int) + o).toNat lc st μ n sl) : Vc y own fr lo mc ms G n0 Q pc lc (kI a :: st) μ n sl := by
  intro p l e s m args below meth c C H locs ls h1 h2 h3 h4
  have ea := n_i ha
  by_cases h : a < lo' ∨ hi < a
  · exact lv_tableOut C.1 C.2.1 hd (by rw [ea]; exact h) (by omega) (kd h p l e s m args below meth c C H locs ls h1 h2 h3 h4)
  · have hj : (a - lo').toNat < offs.size := by omega
    have ho : offs[(a - lo').toNat]? = some offs[(a - lo').toNat] := Array.getElem?_eq_getElem hj
    have hol : offs.toList[(a - lo').toNat]? = some offs[(a - lo').toNat] := by rw [Array.getElem?_toList]; exact ho
    have hp := h0' _ (List.mem_of_getElem? hol)
    exact lv_tableIn (off := offs[(a - lo').toNat]) C.1 C.2.1 hd (by rw [ea]; omega) (by rw [ea]; omega) (by rw [ea]; exact ho) (by omega) (ki _ _ hol (by omega) p l e s m args below meth c C H locs ls h1 h2 h3 h4)
theorem k_ireturn {z : Int} {ty : FieldType} (hr : y.2.2.2 = some ty) (hty : ty = .int ∨ (ty = .boolean ∧ 0 ≤ z ∧ z ≤ 1)) (hn : n = n0 + mc) (hs : sl = ms) (hd : decode y.2.1 pc = .ok (.ireturn, 1)) (hQ : Q μ (some (kI z))) : Vc y own fr lo mc ms G n0 Q pc lc [kI z] μ n sl := by
  intro p l e s m args below meth c C H locs ls h1 h2 h3 h4
  obtain ⟨hx, hb, hml, hown, hts, hret, hlk, hnm, hT0, hS0, hsz⟩ := C
  subst hn
  subst hs
  rw [show n0 + mc - n0 = mc by omega]
  refine W.zret (ty := ty) hx hb (hret.trans hr) ?_ (fun t ht _ => ⟨μ, some (kI z), rfl, hQ, by rw [ht]; exact h1, h2.F ht⟩) h2.2.2 hd hlk
  rcases hty with rfl | ⟨rfl, hz⟩
  · rfl
  · exact nar_z hz
theorem k_lreturn {z : Int} (hr : y.2.2.2 = some .long) (hn : n = n0 + mc) (hs : sl = ms) (hd : decode y.2.1 pc = .ok (.lreturn, 1)) (hQ : Q μ (some (kL z))) : Vc y own fr lo mc ms G n0 Q pc lc [kL z] μ n sl := by
  intro p l e s m args below meth c C H locs ls h1 h2 h3 h4
  obtain ⟨hx, hb, hml, hown, hts, hret, hlk, hnm, hT0, hS0, hsz⟩ := C
  subst hn
  subst hs
  rw [show n0 + mc - n0 = mc by omega]
  exact W.lret hx hb (hret.trans hr) (fun t ht _ => ⟨μ, some (kL z), rfl, hQ, by rw [ht]; exact h1, h2.F ht⟩) h2.2.2 hd hlk
theorem k_areturn {z : Int} {C : String} (hr : y.2.2.2 = some (.object C)) (hn : n = n0 + mc) (hs : sl = ms) (hd : decode y.2.1 pc = .ok (.areturn, 1)) (hQ : Q μ (some (kR z))) : Vc y own fr lo mc ms G n0 Q pc lc [kR z] μ n sl := by
  intro p l e s m args below meth c C H locs ls h1 h2 h3 h4
  obtain ⟨hx, hb, hml, hown, hts, hret, hlk, hnm, hT0, hS0, hsz⟩ := C
  subst hn
  subst hs
  rw [show n0 + mc - n0 = mc by omega]
  refine W.aret hx hb (hret.trans hr) (Or.inl ⟨_, rfl⟩) ?_ (fun t ht _ => ⟨μ, some (kR z), rfl, hQ, by rw [ht]; exact h1, h2.F ht⟩) h2.2.2 hd hlk
  by_cases hz : z < 0
  · exact Or.inl (cv_null hz)
  · exact Or.inr ⟨_, cv_ref (by omega)⟩
theorem k_return (hr : y.2.2.2 = none) (hn : n = n0 + mc) (hs : sl = ms) (hd : decode y.2.1 pc = .ok (.return_, 1)) (hQ : Q μ none) : Vc y own fr lo mc ms G n0 Q pc lc [] μ n sl := by
  intro p l e s m args below meth c C H locs ls h1 h2 h3 h4
  obtain ⟨hx, hb, hml, hown, hts, hret, hlk, hnm, hT0, hS0, hsz⟩ := C
  subst hn
  subst hs
  rw [show n0 + mc - n0 = mc by omega]
  exact W.vret hx hb (hret.trans hr) (fun t ht _ => ⟨μ, none, rfl, hQ, by rw [ht]; exact h1, h2.F ht⟩) h2.2.2 hd hlk
theorem k_objinit {idx : Nat} {z : Int} (hz : 0 ≤ z) (h1' : Cond.methodLink own idx Lib.objectInit ∈ lw_ok) (h2' : Cond.instanceMethod Lib.objectInit ∈ lw_ok) (h3' : Cond.code Lib.objectInit ⟨#[0xb1]⟩ 1 none ∈ lw_ok) (hfr : 1 ≤ fr) (hlo : 12 ≤ lo) (hst : st = []) (hd : decode y.2.1 pc = .ok (.invokespecial idx, 3)) (k : Vc y own fr lo mc ms G n0 Q (pc + 3) lc st μ n sl) : Vc y own fr lo mc ms G n0 Q pc lc (kR z :: st) μ n sl := by
  intro p l e s m args below meth c C H locs ls h1 h2 h3 h4
  have kk := k p l e s m args below meth c C H locs ls h1 h2 h3 h4
  obtain ⟨hx, hb, hml, hown, hts, hret, hlk, hnm, hT0, hS0, hsz⟩ := C
  subst hst
  rw [List.map_cons, cv_ref hz]
  exact W.objInit hx hb hown (ok_before hts h1') (ok_before hts h2') (ok_before hts h3') rfl (by rw [hml]; exact h3.1) rfl hd hfr hlo kk
theorem call_go {p : Program} {l : Launch} {e : Env} {s : State} {m : MethodId} {args a : Array Value} {below : List Frame} {meth : Method} {c : Code} {H : Heap} {locs : List Loc} {cells slots mc' ms' n' : Nat} {ls : Array Slot} {st0 rest : List Value} {Q' : Mem → Option AV → Prop} {R : Room} {Z : State → Prop}
    (hr : va_Run p l e R s m args below meth c H locs cells slots mc' ms' (F0 m pc ls st0) rest (QcOf G n' Q' a) (AG G)) (h2 : va_S (AG G) s.heap H locs)
    (kk : ∀ (μ' : Mem) (r : Option AV) (H1 : Heap) (locs1 : List Loc), Q' μ' r → hH G n' μ' H1 → va_S (AG G) s.heap H1 locs1 → W p l e R s m args below meth c H1 locs1 (cells + mc') (slots + ms') Z (F0 m (pc + 3) ls ((r.map (cv G)).toList ++ rest))) : W p l e R s m args below meth c H locs cells slots Z (F0 m pc ls st0) := by
  intro T hT X
  obtain ⟨v, st₀, t, T', L, h0, X', hL, e1, e2, ⟨μ', r, hv, hq, hb, hz, hk⟩, st⟩ := hr T hT X
  cases hv
  rw [h0] at hz hk
  obtain ⟨t2, a1, b1⟩ := kk μ' r T'.heap (locs ++ L) hq (by rw [e1]; exact hb)
    ⟨Nat.le_trans h2.1 (by rw [e1]; exact hz), fun q h1 h2' => by rw [e1, hk q (Nat.lt_of_lt_of_le h1 h2.1) h2']; exact h2.2.1 q h1 h2', fun q hq => by
      rcases List.mem_append.mp hq with h | h
      · exact h2.2.2 q h
      · exact hL q h⟩ T' rfl X'
  exact ⟨t2, st t2 a1, b1⟩
end K11
