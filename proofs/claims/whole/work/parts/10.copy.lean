section K10
variable {y : Mt} {own : String} {fr lo mc ms : Nat} {G : Cxt} {n0 : Nat} {Q : Mem → Option AV → Prop} {pc : Nat} {lc : List (Nat × AV)} {st : List AV} {μ : Mem} {n sl : Nat}
/-- an element of an array of numbers of kind kd -/
def ev (kd : Nat) (z : Int) : Value := if kd = 1 then .long (Int64.ofInt z) else .int (Int32.ofInt z)
def ety (kd : Nat) : FieldType := match kd with
  | 0 => .int
  | 1 => .long
  | 2 => .byte
  | _ => .boolean
theorem arr_at {H : Heap} {kd N : Nat} {o : Nat} {f : Int → Int} (hk : kd ≤ 3) (hl : LAY o = (kd, N)) : va_at (DG G) vwCl (b0 G + o, cont G o f) H ↔ H[b0 G + o]? = some (arrV (G.2.2.1 kd) N (fun j => ev kd (f j))) := by
  match kd, hk with
  | 0, _ => rw [cont_0 hl]; exact Iff.rfl
  | 1, _ => rw [cont_1 hl]; exact Iff.rfl
  | 2, _ => rw [cont_2 hl]; exact Iff.rfl
  | 3, _ => rw [cont_3 hl]; exact Iff.rfl
theorem arr_ty {s : State} {kd : Nat} (hk : kd ≤ 3) (hT0 : hT G s) : ArrOfT s (G.2.2.1 kd) (ety kd) := by
  match kd, hk with
  | 0, _ => exact (hT0.1.2 0 _ rfl).1
  | 1, _ => exact (hT0.1.2 1 _ rfl).1
  | 2, _ => exact (hT0.1.2 2 _ rfl).1
  | 3, _ => exact (hT0.1.2 3 _ rfl).1
def cpy0 (f g : Int → Int) (n : Int) : Int → Int := fun j => if 0 ≤ j ∧ j < n then f j else g j
theorem k_copy {idx kd N0 N1 : Nat} {a d m : Int} (hk : kd ≤ 2) (ha : 0 ≤ a ∧ a < (n : Int)) (hd1 : 0 ≤ d ∧ d < (n : Int)) (hla : LAY a.toNat = (kd, N0)) (hld : LAY d.toNat = (kd, N1)) (hm : 0 ≤ m ∧ m ≤ N0 ∧ m ≤ N1)
    (hby : kd = 2 → ∀ j : Int, 0 ≤ j → j < m → -128 ≤ μ a.toNat j ∧ μ a.toNat j ≤ 127)
    (hl1 : Cond.methodLink own idx arraycopyName ∈ lw_ok) (hl2 : Cond.native arraycopyName ∈ lw_ok) (hl3 : Cond.static arraycopyName ∈ lw_ok) (hl4 : Cond.initialized "java/lang/System" ∈ lw_ok) (hst : st = []) (hfr : 1 ≤ fr) (hlo : nativeFrameWords "java/lang/System" "arraycopy" 5 + 11 ≤ lo)
    (hd : decode y.2.1 pc = .ok (.invokestatic idx, 3)) (k : Vc y own fr lo mc ms G n0 Q (pc + 3) lc st (seto μ d.toNat (cpy0 (μ a.toNat) (μ d.toNat) m)) n sl) : Vc y own fr lo mc ms G n0 Q pc lc (kI m :: kI 0 :: kR d :: kI 0 :: kR a :: st) μ n sl := by
  intro p l e s mm args below meth c C H locs ls h1 h2 h3 h4
  have kk := fun H locs h1 h2 => k p l e s mm args below meth c C H locs ls h1 h2 h3 h4
  obtain ⟨hx, hb, hml, hown, hts, hret, hlk, hnm, hT0, hS0, hsz⟩ := C
  subst hst
  have la : a.toNat < n := by omega
  have ld : d.toNat < n := by omega
  have sm := lay_small a.toNat
  rw [hla] at sm
  have rm : r32 m := by unfold r32; simp only at sm; omega
  have em : (Int32.ofInt m).toInt = m := n_i rm
  have cm : (Int32.ofInt m).toNatClampNeg = m.toNat := n_clamp rm hm.1
  have hk3 : kd ≤ 3 := by omega
  have hca := (arr_at (H := H) hk3 hla).mp (h1.1 _ _ (wrld_at la))
  have hcd := (arr_at (H := H) hk3 hld).mp (h1.1 _ _ (wrld_at ld))
  obtain ⟨-, k0, hk0, cm0, hkk0⟩ := arr_ty hk3 hT0 N0 (fun j => ev kd (μ a.toNat j))
  obtain ⟨-, k1, hk1, cm1, hkk1⟩ := arr_ty hk3 hT0 N1 (fun j => ev kd (μ d.toNat j))
  have hprim : refKind (ety kd) = false := by
    match kd, hk with
    | 0, _ => rfl
    | 1, _ => rfl
    | 2, _ => rfl
  rw [List.map_cons, List.map_cons, List.map_cons, List.map_cons, List.map_cons, cv_ref ha.1, cv_ref hd1.1]
  intro T hT X
  obtain ⟨vm', X', step⟩ := X.arraycopy hx hown (ok_before hts hl1) (ok_before hts hl2) (ok_before hts hl3) (ok_before hts hl4) (src := b0 G + a.toNat) (dst := b0 G + d.toNat) (srcPos := Int32.ofInt 0) (destPos := Int32.ofInt 0) (n := Int32.ofInt m) (by rw [hT]; exact hca) (by rw [hT]; exact hcd)
    (fun _ h => by cases h) (fun _ h => by cases h) (fun h => by cases h) (fun h => by cases h) hk0 hk1 hkk0 hkk1 (by simp [hprim]) (by decide) (by decide) (by rw [n_0, n_lt rm n_r0]; omega)
    (by rw [em]; show ¬ _ > ((arrV _ N0 _).slots.size : Int); rw [arrV_size]; have : (Int32.ofInt 0).toInt = 0 := rfl; omega)
    (by rw [em]; show ¬ _ > ((arrV _ N1 _).slots.size : Int); rw [arrV_size]; have : (Int32.ofInt 0).toInt = 0 := rfl; omega)
    (fun vm₁ _ i hi => by
      have e0 : (Int32.ofInt 0).toNatClampNeg = 0 := rfl
      rw [cm] at hi
      have e : (arrV (G.2.2.1 kd) N0 (fun j => ev kd (μ a.toNat j))).slots.getD ((Int32.ofInt 0).toNatClampNeg + i) .null = ev kd (μ a.toNat i) := by
        rw [e0, Nat.zero_add, Array.getD_eq_getD_getElem?, arrV_read _ _ (by omega)]
        rfl
      have hfit : fits (ety kd) (ev kd (μ a.toNat i)) = true ∧ True := by
        match kd, hk with
        | 0, _ => exact ⟨rfl, trivial⟩
        | 1, _ => exact ⟨rfl, trivial⟩
        | 2, _ =>
          have hb2 := hby rfl (i : Int) (by omega) (by omega)
          refine ⟨?_, trivial⟩
          show (decide (-128 ≤ Int32.ofInt (μ a.toNat i)) && decide (Int32.ofInt (μ a.toNat i) ≤ 127)) = true
          have r1 : r32 (μ a.toNat i) := by unfold r32; omega
          have q1 : (-128 : Int32) ≤ Int32.ofInt (μ a.toNat i) := (n_le (a := -128) (by unfold r32; omega) r1).mpr hb2.1
          have q2 : Int32.ofInt (μ a.toNat i) ≤ (127 : Int32) := (n_le (b := 127) r1 (by unfold r32; omega)).mpr hb2.2
          rw [Bool.and_eq_true]
          exact ⟨decide_eq_true q1, decide_eq_true q2⟩
      refine ⟨?_, ?_⟩
      · rw [e]; exact hfit.1
      · rw [e]
        match kd, hk with
        | 0, _ => exact trivial
        | 1, _ => exact trivial
        | 2, _ => exact trivial)
    (g := F0 mm pc ls [.int (Int32.ofInt m), .int (Int32.ofInt 0), .ref (b0 G + d.toNat), .int (Int32.ofInt 0), .ref (b0 G + a.toNat)]) rfl (by rw [hml]; exact h3.1) (rest := []) rfl (by rw [hb]; exact hd) hfr (by show 2 * 0 + _ + _ ≤ _; simp; omega)
  have e1 : copied (arrV (G.2.2.1 kd) N0 (fun j => ev kd (μ a.toNat j))) (arrV (G.2.2.1 kd) N1 (fun j => ev kd (μ d.toNat j))) (Int32.ofInt 0) (Int32.ofInt 0) (Int32.ofInt m) = arrV (G.2.2.1 kd) N1 (fun j => ev kd (cpy0 (μ a.toNat) (μ d.toNat) m j)) := by
    have := va_copied (sp := 0) (dp := 0) (n := m.toNat) (fun z : Int => ev kd z) (G.2.2.1 kd) (G.2.2.1 kd) (n0 := N0) (n1 := N1) (fun j => μ a.toNat j) (fun j => μ d.toNat j) (by omega)
    unfold copied
    rw [cm]
    refine this.trans ?_
    congr 1
    funext q
    congr 1
    unfold va_cpy cpy0
    by_cases hq : (q : Int) < m
    · rw [if_pos (by omega), if_pos (by omega)]
      congr 1
      omega
    · rw [if_neg (by omega), if_neg (by omega)]
  rw [e1] at X' step
  have hl : b0 G + d.toNat < H.size := (Array.getElem?_eq_some_iff.mp hcd).1
  have hheap : ((T.setVm vm').setCell (b0 G + d.toNat) (arrV (G.2.2.1 kd) N1 (fun j => ev kd (cpy0 (μ a.toNat) (μ d.toNat) m j)))).heap = H.setIfInBounds (b0 G + d.toNat) (arrV (G.2.2.1 kd) N1 (fun j => ev kd (cpy0 (μ a.toNat) (μ d.toNat) m j))) := by rw [← hT]; rfl
  have oq : ∀ q : Nat, q ≠ b0 G + d.toNat → (H.setIfInBounds (b0 G + d.toNat) (arrV (G.2.2.1 kd) N1 (fun j => ev kd (cpy0 (μ a.toNat) (μ d.toNat) m j))))[q]? = H[q]? := fun q hq => by simp [Array.getElem?_setIfInBounds, Ne.symm hq]
  have hb2 := put_back (f := cpy0 (μ a.toNat) (μ d.toNat) m) h1 ld ((arr_at hk3 hld).mpr (show (H.setIfInBounds (b0 G + d.toNat) _)[b0 G + d.toNat]? = some (arrV (G.2.2.1 kd) N1 (fun j => ev kd (cpy0 (μ a.toNat) (μ d.toNat) m j))) by simp [Array.getElem?_setIfInBounds, hl])) (by simp) oq
  obtain ⟨t, a1, b1⟩ := kk _ _ hb2 ⟨by simp; exact h2.1, fun q g1 g2 => by
      rw [oq q (fun e => g2 (by rw [e]; exact AG_at))]
      exact h2.2.1 q g1 g2, fun q hq => by
      rcases List.mem_append.mp hq with h | h
      · exact h2.2.2 q h
      · obtain ⟨z, -, hz⟩ := List.mem_map.mp h
        rw [← hz]
        exact AG_at⟩ _ hheap X'
  exact ⟨t, step t a1, b1⟩
end K10
