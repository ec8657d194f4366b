section K12
variable {y : Mt} {own : String} {fr lo mc ms : Nat} {G : Cxt} {n0 : Nat} {Q : Mem → Option AV → Prop} {pc : Nat} {lc : List (Nat × AV)} {st : List AV} {μ : Mem} {n sl : Nat}
def notH (C : String) : Prop := C ≠ "java/lang/invoke/MethodHandle" ∧ C ≠ "java/lang/invoke/VarHandle"
/-- what the tables say of a method that is called, whatever the call -/
def mOK (y : Mt) (na : Nat) : Prop := notH y.1.cls ∧ (parseMethodDescriptor y.1.desc).map (fun d => d.parameters.length) = some na ∧ Cond.code y.1 y.2.1 y.2.2.1 y.2.2.2 ∈ lw_ok ∧ Cond.initialized y.1.cls ∈ lw_ok
def vOK (y : Mt) : Prop := Cond.instanceMethod y.1 ∈ lw_ok ∧ Cond.selects y.1.cls y.1 y.1 ∈ lw_ok
/-- the link of a call -/
def lOK (own : String) (idx : Nat) (y : Mt) : Prop := Cond.methodLink own idx y.1 ∈ lw_ok ∨ ∃ host, Cond.methodLinkNest own idx y.1 host ∈ lw_tbl
theorem good_lw {y y' : Mt} (h : Cond.code y'.1 y'.2.1 y'.2.2.1 y'.2.2.2 ∈ lw_ok) : GoodIn (ws_ y) (ws_ y') := by
  have hg : ∀ w ∈ lw_ok, (w.onTables && w.keeps) = true ∨ ∃ ty, w = .arrayClass ty := fun w hw => good_of_word (List.mem_filter.mp hw).2
  intro w hw
  rcases List.mem_cons.mp hw with rfl | hw
  · exact ⟨ok_in h, hg _ h⟩
  · exact ⟨ok_in hw, hg _ hw⟩
/-- an object of a class at hand, for the receiver -/
theorem recv_at {s : State} {H : Heap} {z : Int} {ci : Nat} {q : vw_C} (h1 : hH G n μ H) (hT0 : hT G s) (hz : atO n z ci 0) (hq : vwCl[ci]? = some q) : ∃ cell : Cell, H[b0 G + z.toNat]? = some cell ∧ cell.vm.isStatics = false ∧ s.vm.findClass q.1 = some cell.cls := by
  have hlt : z.toNat < n := by have := hz.1; omega
  have hwa : (wrld G n μ)[z.toNat]? = some (b0 G + z.toNat, .inr (ci, fvs G ci (LAY z.toNat).2 (μ z.toNat))) := by
    rw [wrld_at hlt, cont_obj (lay_eq hz.2.1)]
  exact va_recv hT0.1 h1.1 hq hwa
variable {y' : Mt} {fr' lo' mc' ms' na : Nat} {S' : Sp}
theorem map_ret {r : Option AV} : (r.map (cv G)).toList ++ st.map (cv G) = (r.toList ++ st).map (cv G) := by cases r <;> rfl
theorem cat_sum : ((st.map (cv G)).map fun v => v.category).sum = (st.map fun v => if v.1 = 1 then 2 else 1).sum := by
  rw [List.map_map]
  congr 1
  apply List.map_congr_left
  intro v _
  exact cv_cat v
theorem k_callV {idx ci : Nat} {z : Int} {as : List AV} (hct : Ct y' fr' lo' mc' ms' S') (hm : mOK y' na) (hv : vOK y') (hl : lOK own idx y') (hR : fr' + 1 ≤ fr ∧ 8 + (y'.2.2.1 + 11) + lo' ≤ lo) (hna : as.length = na) (hz : atO n z ci 0) (hq : ∃ T N, vwCl[ci]? = some (y'.1.cls, T, N)) (hroom : n + mc' ≤ n0 + mc ∧ sl + ms' ≤ ms) (hst : (st.map fun v => if v.1 = 1 then 2 else 1).sum ≤ 8) (hd : decode y.2.1 pc = .ok (.invokevirtual idx, 3))
    (hS : S' n (kR z :: as) μ (fun μ' r => Vc y own fr lo mc ms G n0 Q (pc + 3) lc (r.toList ++ st) μ' (n + mc') (sl + ms'))) : Vc y own fr lo mc ms G n0 Q pc lc (as.reverse ++ kR z :: st) μ n sl := by
  intro p l e s m args below meth c C H locs ls h1 h2 h3 h4
  have hC := C
  obtain ⟨hx, hb, hml, hown, hts, hret, hlk, hnm, hT0, hS0, hsz⟩ := C
  have hM := hct G n (kR z :: as) μ _ hS l
  obtain ⟨m1, m2, m3, m4⟩ := hm
  obtain ⟨T, N, hq⟩ := hq
  have hrc := recv_at h1 hT0 hz hq
  have ez : (kR z :: as).map (cv G) = .ref (b0 G + z.toNat) :: as.map (cv G) := by rw [List.map_cons, cv_ref hz.1.1]
  have hpre : PreV s H y'.1.cls (b0 G + z.toNat) (va_Pc ((kR z :: as).map (cv G)) (hAll G n μ)) (as.map (cv G)) :=
    ⟨hAll_blind, hrc, fun U hU hW => ⟨by rw [ez], hAll_at h1 hT0 hS0 h2 hU hW⟩⟩
  have hstk : (as.reverse ++ kR z :: st).map (cv G) = (as.map (cv G)).reverse ++ .ref (b0 G + z.toNat) :: st.map (cv G) := by
    rw [List.map_append, List.map_cons, cv_ref hz.1.1, List.map_reverse]
  have hroom2 : n - n0 + mc' ≤ mc ∧ sl + ms' ≤ ms := by omega
  have hW8 : 2 * (F0 m pc ls ((as.reverse ++ kR z :: st).map (cv G))).monitorRoom + ((st.map (cv G)).map fun v => v.category).sum ≤ 8 := by
    rw [cat_sum]; show 2 * 0 + _ ≤ 8; omega
  have run : va_Run p l e (rmk fr lo mc ms) s m args below meth c H locs (n - n0) sl mc' ms' (F0 m pc ls ((as.reverse ++ kR z :: st).map (cv G))) (st.map (cv G)) (QcOf G (n + mc') (fun μ' r => Vc y own fr lo mc ms G n0 Q (pc + 3) lc (r.toList ++ st) μ' (n + mc') (sl + ms')) (Value.ref (b0 G + z.toNat) :: as.map (cv G)).toArray) (AG G) := by
    rcases hl with hl | ⟨host, hl⟩
    · exact va_runV (Ts := ws_ y) (C := y'.1.cls) ⟨hx, hb, hml, hown, hts⟩ hM ⟨callB_of na hts (good_lw m3) rfl rfl rfl (ok_before hts m4) (ok_before hts hl) ⟨m1.1, m1.2, m2⟩ hR, ok_before hts hv.1, ok_before hts hv.2⟩ hpre rfl (by rw [List.length_map]; exact hna) h3.1 hstk hW8 hd hroom2
    · exact va_runVN (Ts := ws_ y) (C := y'.1.cls) ⟨hx, hb, hml, hown, hts⟩ hM ⟨va_cnB na hts (good_lw m3) rfl rfl rfl (hT0.2.1 _ hl rfl) (ok_before hts m4) ⟨m1.1, m1.2, m2⟩ hR, ok_before hts hv.1, ok_before hts hv.2⟩ hpre rfl (by rw [List.length_map]; exact hna) h3.1 hstk hW8 hd hroom2
  refine call_go run h2 fun μ' r H1 locs1 q1 q2 q3 => ?_
  rw [map_ret, show n - n0 + mc' = n + mc' - n0 by omega]
  exact q1 p l e s m args below meth c hC H1 locs1 ls q2 q3 h3 (by omega)
theorem k_callS {idx : Nat} {as : List AV} (hct : Ct y' fr' lo' mc' ms' S') (hm : mOK y' na) (hv : Cond.static y'.1 ∈ lw_ok) (hl : lOK own idx y') (hR : fr' + 1 ≤ fr ∧ 8 + (y'.2.2.1 + 11) + lo' ≤ lo) (hna : as.length = na) (hroom : n + mc' ≤ n0 + mc ∧ sl + ms' ≤ ms) (hst : (st.map fun v => if v.1 = 1 then 2 else 1).sum ≤ 8) (hd : decode y.2.1 pc = .ok (.invokestatic idx, 3))
    (hS : S' n as μ (fun μ' r => Vc y own fr lo mc ms G n0 Q (pc + 3) lc (r.toList ++ st) μ' (n + mc') (sl + ms'))) : Vc y own fr lo mc ms G n0 Q pc lc (as.reverse ++ st) μ n sl := by
  intro p l e s m args below meth c C H locs ls h1 h2 h3 h4
  have hC := C
  obtain ⟨hx, hb, hml, hown, hts, hret, hlk, hnm, hT0, hS0, hsz⟩ := C
  have hM := hct G n as μ _ hS l
  obtain ⟨m1, m2, m3, m4⟩ := hm
  have hpre : PreS s H (va_Pc (as.map (cv G)) (hAll G n μ)) (as.map (cv G)) :=
    ⟨hAll_blind, fun U hU hW => ⟨rfl, hAll_at h1 hT0 hS0 h2 hU hW⟩⟩
  have hstk : (as.reverse ++ st).map (cv G) = (as.map (cv G)).reverse ++ st.map (cv G) := by
    rw [List.map_append, List.map_reverse]
  have hroom2 : n - n0 + mc' ≤ mc ∧ sl + ms' ≤ ms := by omega
  have hW8 : 2 * (F0 m pc ls ((as.reverse ++ st).map (cv G))).monitorRoom + ((st.map (cv G)).map fun v => v.category).sum ≤ 8 := by
    rw [cat_sum]; show 2 * 0 + _ ≤ 8; omega
  have run : va_Run p l e (rmk fr lo mc ms) s m args below meth c H locs (n - n0) sl mc' ms' (F0 m pc ls ((as.reverse ++ st).map (cv G))) (st.map (cv G)) (QcOf G (n + mc') (fun μ' r => Vc y own fr lo mc ms G n0 Q (pc + 3) lc (r.toList ++ st) μ' (n + mc') (sl + ms')) (as.map (cv G)).toArray) (AG G) := by
    rcases hl with hl | ⟨host, hl⟩
    · exact va_runS (Ts := ws_ y) ⟨hx, hb, hml, hown, hts⟩ hM ⟨callB_of na hts (good_lw m3) rfl rfl rfl (ok_before hts m4) (ok_before hts hl) ⟨m1.1, m1.2, m2⟩ hR, ok_before hts hv⟩ hpre rfl (by rw [List.length_map]; exact hna) h3.1 hstk hW8 hd hroom2
    · exact va_runSN (Ts := ws_ y) ⟨hx, hb, hml, hown, hts⟩ hM ⟨va_cnB na hts (good_lw m3) rfl rfl rfl (hT0.2.1 _ hl rfl) (ok_before hts m4) ⟨m1.1, m1.2, m2⟩ hR, ok_before hts hv, trivial⟩ hpre rfl (by rw [List.length_map]; exact hna) h3.1 hstk hW8 hd hroom2
  refine call_go run h2 fun μ' r H1 locs1 q1 q2 q3 => ?_
  rw [map_ret, show n - n0 + mc' = n + mc' - n0 by omega]
  exact q1 p l e s m args below meth c hC H1 locs1 ls q2 q3 h3 (by omega)
theorem k_callI {idx : Nat} {z : Int} {as : List AV} (hct : Ct y' fr' lo' mc' ms' S') (hm : mOK y' na) (hv : Cond.instanceMethod y'.1 ∈ lw_ok) (hin : y'.1.name = "<init>") (hrn : y'.2.2.2 = none) (hl : lOK own idx y') (hR : fr' + 1 ≤ fr ∧ 8 + (y'.2.2.1 + 11) + lo' ≤ lo) (hna : as.length = na) (hz : 0 ≤ z) (hroom : n + mc' ≤ n0 + mc ∧ sl + ms' ≤ ms) (hst : (st.map fun v => if v.1 = 1 then 2 else 1).sum ≤ 8) (hd : decode y.2.1 pc = .ok (.invokespecial idx, 3))
    (hS : S' n (kR z :: as) μ (fun μ' r => Vc y own fr lo mc ms G n0 Q (pc + 3) lc (r.toList ++ st) μ' (n + mc') (sl + ms'))) : Vc y own fr lo mc ms G n0 Q pc lc (as.reverse ++ kR z :: st) μ n sl := by
  intro p l e s m args below meth c C H locs ls h1 h2 h3 h4
  have hC := C
  obtain ⟨hx, hb, hml, hown, hts, hret, hlk, hnm, hT0, hS0, hsz⟩ := C
  have hM := hct G n (kR z :: as) μ _ hS l
  obtain ⟨y1, y2, y3, y4⟩ := y'
  cases hrn
  obtain ⟨m1, m2, m3, m4⟩ := hm
  have ez : (kR z :: as).map (cv G) = .ref (b0 G + z.toNat) :: as.map (cv G) := by rw [List.map_cons, cv_ref hz]
  have hpre : PreS s H (va_Pc ((kR z :: as).map (cv G)) (hAll G n μ)) (.ref (b0 G + z.toNat) :: as.map (cv G)) :=
    ⟨hAll_blind, fun U hU hW => ⟨by rw [ez], hAll_at h1 hT0 hS0 h2 hU hW⟩⟩
  have hstk : (as.reverse ++ kR z :: st).map (cv G) = (as.map (cv G)).reverse ++ .ref (b0 G + z.toNat) :: st.map (cv G) := by
    rw [List.map_append, List.map_cons, cv_ref hz, List.map_reverse]
  have hroom2 : n - n0 + mc' ≤ mc ∧ sl + ms' ≤ ms := by omega
  have hW8 : 2 * (F0 m pc ls ((as.reverse ++ kR z :: st).map (cv G))).monitorRoom + ((st.map (cv G)).map fun v => v.category).sum ≤ 8 := by
    rw [cat_sum]; show 2 * 0 + _ ≤ 8; omega
  have run : va_Run p l e (rmk fr lo mc ms) s m args below meth c H locs (n - n0) sl mc' ms' (F0 m pc ls ((as.reverse ++ kR z :: st).map (cv G))) (st.map (cv G)) (QcOf G (n + mc') (fun μ' r => Vc y own fr lo mc ms G n0 Q (pc + 3) lc (r.toList ++ st) μ' (n + mc') (sl + ms')) (Value.ref (b0 G + z.toNat) :: as.map (cv G)).toArray) (AG G) := by
    rcases hl with hl | ⟨host, hl⟩
    · exact va_runI (Ts := ws_ y) ⟨hx, hb, hml, hown, hts⟩ hM ⟨callB_of na hts (good_lw m3) rfl rfl rfl (ok_before hts m4) (ok_before hts hl) ⟨m1.1, m1.2, m2⟩ hR, hin, ok_before hts hv⟩ hpre rfl (by rw [List.length_map]; exact hna) h3.1 hstk hW8 hd hroom2
    · exact va_runIN (Ts := ws_ y) ⟨hx, hb, hml, hown, hts⟩ hM ⟨va_cnB na hts (good_lw m3) rfl rfl rfl (hT0.2.1 _ hl rfl) (ok_before hts m4) ⟨m1.1, m1.2, m2⟩ hR, hin, ok_before hts hv⟩ hpre rfl (by rw [List.length_map]; exact hna) h3.1 hstk hW8 hd hroom2
  refine call_go run h2 fun μ' r H1 locs1 q1 q2 q3 => ?_
  rw [map_ret, show n - n0 + mc' = n + mc' - n0 by omega]
  exact q1 p l e s m args below meth c hC H1 locs1 ls q2 q3 h3 (by omega)
/-- the locals at a method's entry -/
def ent : Nat → List AV → List (Nat × AV)
  | _, [] => []
  | i, v :: t => (i, v) :: ent (if v.1 = 1 then i + 2 else i + 1) t
theorem ent_ok : ∀ (as : List AV) (i : Nat), cvl G (ent i as) = lv_args i (as.map (cv G))
  | [], _ => rfl
  | v :: t, i => by
    have h := ent_ok t (if v.1 = 1 then i + 2 else i + 1)
    have hc := cv_cat (G := G) v
    show (i, cv G v) :: cvl G (ent (if v.1 = 1 then i + 2 else i + 1) t) = (i, cv G v) :: lv_args (if (cv G v).category = 2 then i + 2 else i + 1) (t.map (cv G))
    rw [h, hc]
    by_cases hv : v.1 = 1 <;> simp [hv]
/-- a method's contract out of its body -/
theorem ct_of {S : Sp} (hn : plainName y.1.cls = true) (hown : own = y.1.cls) (hlen : ∀ (n : Nat) (as : List AV) (μ : Mem) (Q : Mem → Option AV → Prop), S n as μ Q → (as.map fun v => if v.1 = 1 then 2 else 1).sum ≤ y.2.2.1)
    (h : ∀ (G : Cxt) (n : Nat) (as : List AV) (μ : Mem) (Q : Mem → Option AV → Prop), S n as μ Q → Vc y own fr lo mc ms G n Q 0 (ent 0 as) [] μ n 0) : Ct y fr lo mc ms S := by
  intro G n as μ Q hS l
  refine Met.ofW (cc := y.2.1) (maxL := y.2.2.1) (ret := y.2.2.2) (ws' := lw_ok) hn rfl ?_
  intro p e s m args below meth c s₁ B hml hv
  obtain ⟨rfl, hh, hT0, hS0⟩ := hv
  have hx := B.exec
  have hb := B.bytes
  have hr := B.returns
  have hts := atoms_spec (ws := ws_ y) B.pre
  have hown2 : s.vm.findClass own = some m.cls := by rw [hown]; exact findClass_of_methodNamed B.named
  have hlocks := B.notSynchronized
  have hin : meth.name = y.1.name := (name_of_methodNamed B.named B.method).1
  have hsum : (lg_sl (as.map (cv G))).length ≤ y.2.2.1 := by
    have := hlen n as μ Q hS
    refine Nat.le_trans (Nat.le_of_eq ?_) this
    unfold lg_sl
    rw [List.length_flatMap, List.map_map]
    congr 1
    apply List.map_congr_left
    intro v _
    show (if (cv G v).category = 2 then _ else _ : List Slot).length = _
    rw [cv_cat]
    by_cases hv : v.1 = 1 <;> simp [hv]
  have hl := lv_entry (as.map (cv G)) hsum
  rw [lg_entry_eq]
  generalize (lg_sl (as.map (cv G)) ++ List.replicate (y.2.2.1 - (lg_sl (as.map (cv G))).length) Slot.unset).toArray = ls at hl ⊢
  have hlc := ent_ok (G := G) as 0
  have := h G n as μ Q hS p l e s m _ below meth c ⟨hx, hb, hml, hown2, hts, hr, hlocks, hin, hT0, hS0, hh.2.2⟩ s.heap [] ls hh va_S.rf (by rw [hlc]; exact hl) (Nat.le_refl n)
  rw [Nat.sub_self] at this
  exact this
end K12
