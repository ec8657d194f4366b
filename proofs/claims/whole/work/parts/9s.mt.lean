/-! constructors: arrays made one behind another, each put into a field of the object at k -/
def arrsB : Nat → List (Nat × Nat) → Bool
  | _, [] => true
  | n, a :: t => decide (LAY n = a) && arrsB (n + 1) t
theorem arrs_s {n : Nat} {a : Nat × Nat} {t : List (Nat × Nat)} (h : arrsB n (a :: t) = true) : LAY n = a ∧ arrsB (n + 1) t = true := by
  unfold arrsB at h
  rw [Bool.and_eq_true] at h
  exact ⟨of_decide_eq_true h.1, h.2⟩
def mkA (k : Nat) : Mem → Nat → List Nat → Mem
  | μ, _, [] => μ
  | μ, n, f :: t => mkA k (updm (seto μ n (fun _ => 0)) k f n) (n + 1) t
def lkO : List Nat → Nat → Nat → Option Nat → Option Nat
  | [], _, _, o => o
  | f :: t, i, g, o => lkO t (i + 1) g (if g = f then some i else o)
def rdO (k : Nat) (d : Int) : Option Nat → Int
  | none => d
  | some i => (k : Int) + (i : Int)
theorem mkA_k {k : Nat} {d : Int} : ∀ (fs : List Nat) (μ : Mem) (n i : Nat) (g : Nat) (o : Option Nat), n = k + i → 1 ≤ i → μ k g = rdO k d o → mkA k μ n fs k g = rdO k d (lkO fs i g o)
  | [], _, _, _, _, _, _, _, h => h
  | f :: t, μ, n, i, g, o, hn, hi, h => by
    show mkA k (updm (seto μ n (fun _ => 0)) k f n) (n + 1) t k g = rdO k d (lkO t (i + 1) g (if g = f then some i else o))
    refine mkA_k t _ (n + 1) (i + 1) g _ (by omega) (by omega) ?_
    have hk : ¬ (k : Int) = (n : Int) := by omega
    rw [ru_eq]
    by_cases q : g = f
    · rw [if_pos q, q, r1_eq, hn]
      show ((k + i : Nat) : Int) = (k : Int) + (i : Int)
      omega
    · have q2 : ¬ (g : Int) = (f : Int) := by omega
      rw [if_neg q, r1_ne q2, rs_ne hk]
      exact h
theorem mkA_lo {k : Nat} : ∀ (fs : List Nat) (μ : Mem) (n : Nat) (y : Int), y ≠ k → (y < n ∨ (n : Int) + fs.length ≤ y) → mkA k μ n fs y = μ y
  | [], _, _, _, _, _ => rfl
  | f :: t, μ, n, y, hk, hy => by
    show mkA k (updm (seto μ n (fun _ => 0)) k f n) (n + 1) t y = μ y
    have hl : (((f :: t).length : Nat) : Int) = (t.length : Int) + 1 := by simp
    rw [mkA_lo t _ (n + 1) y hk (by omega), ru_ne hk, rs_ne (by omega)]
theorem mkA_ar {k : Nat} : ∀ (fs : List Nat) (μ : Mem) (n : Nat) (y : Int), k < n → (n : Int) ≤ y → y < (n : Int) + fs.length → mkA k μ n fs y = fun _ => 0
  | [], _, n, y, _, h0, h1 => by
    have : (([] : List Nat).length : Int) = 0 := rfl
    omega
  | f :: t, μ, n, y, hk, h0, h1 => by
    show mkA k (updm (seto μ n (fun _ => 0)) k f n) (n + 1) t y = fun _ => 0
    have hl : (((f :: t).length : Nat) : Int) = (t.length : Int) + 1 := by simp
    by_cases q : y = n
    · subst q
      rw [mkA_lo t _ (n + 1) _ (by omega) (by omega), ru_ne (by omega), rs_eq]
    · exact mkA_ar t _ (n + 1) y (by omega) (by omega) (by omega)
/-- an object of class ci as it is made, with c arrays behind it -/
def ObR (ci k : Nat) (μ : Mem) : Prop := (∀ f : Nat, f < NF ci → tgOf (TYS ci f) = 2 → μ k f = (k : Int) + OFF ci f) ∧ ∀ f : Nat, f < NF ci → tgOf (TYS ci f) ≠ 2 → μ k f = 0
def ObK (ci c k : Nat) (μ : Mem) : Prop := ObR ci k μ ∧ ∀ y : Int, (k : Int) < y → y ≤ (k : Int) + c → μ y = fun _ => 0
def Frm (k c : Nat) (μ μ' : Mem) : Prop := ∀ y : Int, (y < k ∨ (k : Int) + c < y) → μ' y = μ y
def okA (ci : Nat) (fs : List Nat) (g : Nat) : Bool := match lkO fs 1 g none with
  | none => !decide (tgOf (TYS ci g) = 2)
  | some i => decide (tgOf (TYS ci g) = 2) && decide (OFF ci g = (i : Int))
def okF (ci : Nat) (fs : List Nat) : Bool := (List.range (NF ci)).all (okA ci fs)
theorem dfl_at {ci g : Nat} (h : tgOf (TYS ci g) ≠ 2) : dfl ci (g : Int) = 0 := by
  unfold dfl
  rw [show ((g : Int).toNat) = g from rfl, if_neg h]
theorem ob_ref {ci k : Nat} {fs : List Nat} (h : okF ci fs = true) {μ m : Mem} (h0 : μ k = dfl ci) (hm : ∀ (g : Nat) (d : Int), g < NF ci → μ k g = d → m k g = rdO k d (lkO fs 1 g none)) : ObR ci k m := by
  have key : ∀ g : Nat, g < NF ci → okA ci fs g = true := fun g hg => List.all_eq_true.mp h g (List.mem_range.mpr hg)
  refine ⟨fun g hg ht => ?_, fun g hg ht => ?_⟩
  · have q := key g hg
    rw [hm g _ hg rfl]
    unfold okA at q
    split at q
    · rw [decide_eq_true ht] at q
      exact absurd q (by decide)
    · rename_i i e
      rw [Bool.and_eq_true] at q
      rw [e, of_decide_eq_true q.2]
      rfl
  · have q := key g hg
    have e0 : μ k g = 0 := by rw [h0]; exact dfl_at ht
    rw [hm g _ hg e0]
    unfold okA at q
    split at q
    · rename_i e
      rw [e]
      rfl
    · rw [Bool.and_eq_true] at q
      exact absurd (of_decide_eq_true q.1) ht
theorem mk_ok {ci k : Nat} {fs : List Nat} (h : okF ci fs = true) {μ : Mem} (h0 : μ k = dfl ci) : Frm k fs.length μ (mkA k μ (k + 1) fs) ∧ ObK ci fs.length k (mkA k μ (k + 1) fs) := by
  refine ⟨fun y hy => mkA_lo fs μ (k + 1) y (by omega) (by omega), ob_ref h h0 (fun g d _ e => mkA_k fs μ (k + 1) 1 g none (by omega) (by omega) e), fun y y0 y1 => mkA_ar fs μ (k + 1) y (by omega) (by omega) (by omega)⟩
/-- a simple constructor's contract -/
def S_ini (ci c : Nat) (zs : List Nat) : Sp := fun n as μ Q => ∃ k : Nat, as = [kR k] ∧ k ∈ zs ∧ n = k + 1 ∧ μ k = dfl ci ∧ ∀ μ' : Mem, Frm k c μ μ' → ObK ci c k μ' → Q μ' none
theorem atO_k {n k ci f N : Nat} (hk : LAY k = (ci + 10, N)) (h : k < n) (hf : f < N) : atO n (k : Int) ci f := by
  refine ⟨⟨by omega, by omega⟩, ?_, ?_⟩
  · show (LAY k).1 = ci + 10
    rw [hk]
  · show f < (LAY k).2
    rw [hk]; exact hf
theorem atA_k {n k kd N : Nat} {j : Int} (hk : LAY k = (kd, N)) (h : k < n) (h0 : 0 ≤ j) (h1 : j < (N : Int)) : atA n (k : Int) kd j := by
  refine ⟨⟨by omega, by omega⟩, ?_, h0, ?_⟩
  · show (LAY k).1 = kd
    rw [hk]
  · show j < ((LAY k).2 : Int)
    rw [hk]; exact h1
/-- a field that a constructor writes -/
theorem pk_f {y : Mt} {own : String} {idx ci f i : Nat} (q : vw_C) (h1 : vwCl[ci]? = some q) (h2 : f < q.2.2) (h3 : (q.2.1 f).1 = q.1) (h4 : (q.2.1 f).2.2.2 = true) (h5 : tables_1[i]? = some (Cond.fieldLink own idx q.1 (q.2.1 f).2.1 (q.2.1 f).2.2.1)) (h6 : y.1.name = "<init>") (h7 : q.1 = own) : pOK y own idx ci f :=
  ⟨q, h1, h2, h3, Or.inr ⟨h4, in_ok h5 rfl, h6, h7⟩⟩
theorem pk_n {y : Mt} {own : String} {idx ci f i : Nat} (q : vw_C) (h1 : vwCl[ci]? = some q) (h2 : f < q.2.2) (h3 : (q.2.1 f).1 = q.1) (h4 : (q.2.1 f).2.2.2 = false) (h5 : tables_1[i]? = some (Cond.fieldLink own idx q.1 (q.2.1 f).2.1 (q.2.1 f).2.2.1)) : pOK y own idx ci f :=
  ⟨q, h1, h2, h3, Or.inl ⟨h4, Or.inl (in_ok h5 rfl)⟩⟩
theorem ff_f {own : String} {idx ci f i : Nat} (q : vw_C) (h1 : vwCl[ci]? = some q) (h2 : f < q.2.2) (h3 : (q.2.1 f).1 = q.1) (h5 : tables_1[i]? = some (Cond.fieldLink own idx q.1 (q.2.1 f).2.1 (q.2.1 f).2.2.1)) : fOK own idx ci f :=
  ⟨q, h1, h2, h3, Or.inl (in_ok h5 rfl)⟩
theorem nw_c {own : String} {idx ci N i j k : Nat} (q : vw_C) (h1 : vwCl[ci]? = some q) (h2 : q.2.2 = N) (h3 : tables_1[i]? = some (Cond.classLink own idx q.1)) (h4 : tables_1[j]? = some (Cond.instantiable q.1 N)) (h5 : tables_1[k]? = some (Cond.initialized q.1)) : nOK own idx ci N :=
  ⟨q, h1, h2, in_ok h3 rfl, in_ok h4 rfl, in_ok h5 rfl⟩
theorem AR_int : Cond.arrayClass (newarray.typeOf .int) ∈ lw_ok := in_ok (i := 141) (by decide +kernel) rfl
theorem AR_long : Cond.arrayClass (newarray.typeOf .long) ∈ lw_ok := in_ok (i := 336) (by decide +kernel) rfl
theorem AR_byte : Cond.arrayClass (newarray.typeOf .byte) ∈ lw_ok := in_ok (i := 140) (by decide +kernel) rfl
theorem AR_boolean : Cond.arrayClass (newarray.typeOf .boolean) ∈ lw_ok := in_ok (i := 216) (by decide +kernel) rfl
theorem S_ini_mk {ci c n : Nat} {zs : List Nat} {as : List AV} {μ : Mem} {Q : Mem → Option AV → Prop} (k : Nat) (h1 : as = [kR k]) (h2 : k ∈ zs) (h3 : n = k + 1) (h4 : μ k = dfl ci) (h5 : ∀ μ' : Mem, Frm k c μ μ' → ObK ci c k μ' → Q μ' none) : S_ini ci c zs n as μ Q := ⟨k, h1, h2, h3, h4, h5⟩
section C9
variable {y : Mt} {own : String} {fr lo mc ms : Nat} {G : Cxt} {n0 : Nat} {Q : Mem → Option AV → Prop} {pc : Nat} {lc : List (Nat × AV)} {st : List AV} {μ : Mem} {n sl : Nat}
theorem kq_get {idx ci f N k : Nat} {w : Int} (hF : fOK own idx ci f) (hK : LAY k = (ci + 10, N)) (hlt : k < n) (hf : f < N) (ht : tgOf (TYS ci f) = 2) (hw : μ k f = w) (hd : decode y.2.1 pc = .ok (.getfield idx, 3)) (kk : Vc y own fr lo mc ms G n0 Q (pc + 3) lc (kR w :: st) μ n sl) : Vc y own fr lo mc ms G n0 Q pc lc (kR k :: st) μ n sl := by
  refine k_getfield hF (atO_k hK hlt hf) hd ?_
  have e : μ (((k : Int).toNat : Nat) : Int) f = w := hw
  rw [e, ht]
  exact kk
theorem kq_put {idx ci f N k : Nat} {w : Int} (hF : pOK y own idx ci f) (hK : LAY k = (ci + 10, N)) (hlt : k < n) (hf : f < N) (ht : tgOf (TYS ci f) = 2) (hw : fitZ (TYS ci f) w) (hd : decode y.2.1 pc = .ok (.putfield idx, 3)) (kk : Vc y own fr lo mc ms G n0 Q (pc + 3) lc st (updm μ k f w) n sl) : Vc y own fr lo mc ms G n0 Q pc lc (kR w :: kR k :: st) μ n sl := by
  have q := k_putfield (st := st) hF (atO_k hK hlt hf) hw hd kk
  rw [ht] at q
  exact q
theorem kq_puti {idx ci f N k : Nat} {w : Int} (hF : pOK y own idx ci f) (hK : LAY k = (ci + 10, N)) (hlt : k < n) (hf : f < N) (ht : tgOf (TYS ci f) = 0) (hw : fitZ (TYS ci f) w) (hd : decode y.2.1 pc = .ok (.putfield idx, 3)) (kk : Vc y own fr lo mc ms G n0 Q (pc + 3) lc st (updm μ k f w) n sl) : Vc y own fr lo mc ms G n0 Q pc lc (kI w :: kR k :: st) μ n sl := by
  have q := k_putfield (st := st) hF (atO_k hK hlt hf) hw hd kk
  rw [ht] at q
  exact q
theorem kq_ist {N k : Nat} {j w : Int} (hK : LAY k = (0, N)) (hlt : k < n) (h0 : 0 ≤ j) (h1 : j < (N : Int)) (hd : decode y.2.1 pc = .ok (.iastore, 1)) (kk : Vc y own fr lo mc ms G n0 Q (pc + 1) lc st (updm μ k j w) n sl) : Vc y own fr lo mc ms G n0 Q pc lc (kI w :: kI j :: kR k :: st) μ n sl :=
  k_iastore (atA_k hK hlt h0 h1) hd kk
theorem kq_ast {kd ci N N' k w : Nat} {j : Int} (hk : (kd = 4 ∧ ci = 7) ∨ (kd = 5 ∧ ci = 9)) (hK : LAY k = (kd, N)) (hlt : k < n) (h0 : 0 ≤ j) (h1 : j < (N : Int)) (hW : LAY w = (ci + 10, N')) (hwl : w < n) (hN : 0 < N') (hd : decode y.2.1 pc = .ok (.aastore, 1)) (kk : Vc y own fr lo mc ms G n0 Q (pc + 1) lc st (updm μ k j w) n sl) : Vc y own fr lo mc ms G n0 Q pc lc (kR w :: kI j :: kR k :: st) μ n sl :=
  k_aastore hk (atA_k hK hlt h0 h1) (atO_k hW hwl hN) hd kk
end C9
theorem ob_frame {ci c k : Nat} {μ m : Mem} (h : ObK ci c k μ) (hf : ∀ y : Int, (k : Int) ≤ y → y ≤ (k : Int) + c → m y = μ y) : ObK ci c k m := by
  obtain ⟨⟨h1, h2⟩, h3⟩ := h
  refine ⟨⟨fun f f0 f1 => by rw [hf k (by omega) (by omega)]; exact h1 f f0 f1, fun f f0 f1 => by rw [hf k (by omega) (by omega)]; exact h2 f f0 f1⟩, fun y y0 y1 => by rw [hf y (by omega) y1]; exact h3 y y0 y1⟩
/-- an object made and put into a field, or a place, of k -/
theorem st_obj {n c k : Nat} {m m2 : Mem} {d : Int → Int} {f : Int} (h : Frm n c (seto m n d) m2) (hk : k < n) : (∀ y : Int, y ≠ k → (y < n ∨ (n : Int) + c < y) → updm m2 k f n y = m y) ∧ (∀ g : Int, updm m2 k f n k g = if g = f then (n : Int) else m k g) ∧ ∀ y : Int, (n : Int) ≤ y → updm m2 k f n y = m2 y := by
  refine ⟨fun y hy hr => ?_, fun g => ?_, fun y hy => ru_ne (by omega)⟩
  · rw [ru_ne hy, h y hr, rs_ne (by omega)]
  · rw [ru_eq]
    have e : m2 k = m k := by rw [h k (by omega), rs_ne (by omega)]
    by_cases q : g = f
    · rw [if_pos q, q, r1_eq]
    · rw [if_neg q, r1_ne q, e]
theorem st_arr {n k : Nat} {m : Mem} {d : Int → Int} {f : Int} (hk : k < n) : (∀ y : Int, y ≠ k → y ≠ n → updm (seto m n d) k f n y = m y) ∧ (∀ g : Int, updm (seto m n d) k f n k g = if g = f then (n : Int) else m k g) ∧ updm (seto m n d) k f n n = d := by
  refine ⟨fun y hy hr => by rw [ru_ne hy, rs_ne hr], fun g => ?_, by rw [ru_ne (by omega), rs_eq]⟩
  rw [ru_eq]
  by_cases q : g = f
  · rw [if_pos q, q, r1_eq]
  · rw [if_neg q, r1_ne q, rs_ne (by omega)]
/-- a stage: an array made and put into field f of k -/
def AR (k n : Nat) (f : Int) (d : Int → Int) (m m' : Mem) : Prop := (∀ y : Int, y ≠ k → y ≠ n → m' y = m y) ∧ (∀ g : Int, m' k g = if g = f then (n : Int) else m k g) ∧ m' n = d
theorem st_ar {n k : Nat} {m : Mem} {d : Int → Int} {f : Int} (hk : k < n) : AR k n f d m (updm (seto m n d) k f n) := st_arr hk
/-- a stage: an object made and put into field (or place) f of k -/
def OB (P : Mem → Prop) (c k n : Nat) (f : Int) (m m' : Mem) : Prop := (∀ y : Int, y ≠ k → (y < n ∨ (n : Int) + c < y) → m' y = m y) ∧ (∀ g : Int, m' k g = if g = f then (n : Int) else m k g) ∧ P m'
def LocP (P : Mem → Prop) (n c : Nat) : Prop := ∀ a b : Mem, (∀ y : Int, (n : Int) ≤ y → y ≤ (n : Int) + c → b y = a y) → P a → P b
theorem loc_ob (ci c k : Nat) : LocP (ObK ci c k) k c := fun _ _ h q => ob_frame q h
theorem st_ob {P : Mem → Prop} {n c k : Nat} {m m2 : Mem} {d : Int → Int} {f : Int} (hP : LocP P n c) (h : Frm n c (seto m n d) m2) (ho : P m2) (hk : k < n) : OB P c k n f m (updm m2 k f n) := by
  have q := st_obj (f := f) h hk
  exact ⟨q.1, q.2.1, hP _ _ (fun y y0 _ => q.2.2 y y0) ho⟩
theorem vc_gen {y : Mt} {own : String} {fr lo mc ms : Nat} {G : Cxt} {n0 : Nat} {Q : Mem → Option AV → Prop} {pc : Nat} {lc : List (Nat × AV)} {st : List AV} {μ : Mem} {n sl : Nat} (F : Mem → Prop) (hF : F μ) (h : ∀ m : Mem, F m → Vc y own fr lo mc ms G n0 Q pc lc st m n sl) : Vc y own fr lo mc ms G n0 Q pc lc st μ n sl := h μ hF
theorem dfl9 : ∀ g : Nat, g < 11 → 2 ≤ g → dfl 9 (g : Int) = 0 := by decide +kernel
theorem rr32 {a : Int} (h : -1000000 ≤ a ∧ a ≤ 1000000) : r32 a := by unfold r32; omega
/-- a world as it is made -/
def WlK (k : Nat) (μ : Mem) : Prop := ((∀ g : Nat, 2 ≤ g → g < 11 → μ k g = if g = 4 then -1 else 0) ∧ μ k 0 = (k : Int) + 1 ∧ μ k 1 = (k : Int) + 2) ∧ μ ((k : Int) + 1) = (fun _ => 0) ∧ (∀ j : Nat, j < 3 → μ ((k : Int) + 2) j = (k : Int) + 3 + 10 * (j : Int)) ∧ ∀ j : Nat, j < 3 → ObK 7 9 (k + 3 + 10 * j) μ
theorem loc_wl (k : Nat) : LocP (WlK k) k 32 := fun a b h q => by
  obtain ⟨⟨q1, q2, q3⟩, q4, q5, q6⟩ := q
  have e0 := h k (by omega) (by omega)
  have e1 := h ((k : Int) + 1) (by omega) (by omega)
  have e2 := h ((k : Int) + 2) (by omega) (by omega)
  unfold WlK
  rw [e0, e1, e2]
  exact ⟨⟨q1, q2, q3⟩, q4, q5, fun j hj => ob_frame (q6 j hj) (fun y y0 y1 => h y (by omega) (by omega))⟩
def S_W9 : Sp := fun n as μ Q => ∃ k : Nat, as = [kR k] ∧ k ∈ ([1, 35, 68, 101] : List Nat) ∧ n = k + 1 ∧ μ k = dfl 9 ∧ ∀ μ' : Mem, Frm k 32 μ μ' → WlK k μ' → Q μ' none
theorem S_W9_mk {n : Nat} {as : List AV} {μ : Mem} {Q : Mem → Option AV → Prop} (k : Nat) (h1 : as = [kR k]) (h2 : k ∈ ([1, 35, 68, 101] : List Nat)) (h3 : n = k + 1) (h4 : μ k = dfl 9) (h5 : ∀ μ' : Mem, Frm k 32 μ μ' → WlK k μ' → Q μ' none) : S_W9 n as μ Q := ⟨k, h1, h2, h3, h4, h5⟩
/-- a game as it is made -/
def GmK (k : Nat) (μ : Mem) : Prop := ObR 0 k μ ∧ (∀ y : Int, (k : Int) < y → y ≤ (k : Int) + 10 → y ≠ (k : Int) + 6 → μ y = fun _ => 0) ∧ ChR μ k
theorem loc_gm (k : Nat) : LocP (GmK k) k 10 := fun a b h q => by
  obtain ⟨⟨q1, q2⟩, q3, q4⟩ := q
  have e0 := h k (by omega) (by omega)
  have e6 := h ((k : Int) + 6) (by omega) (by omega)
  refine ⟨⟨fun f f0 f1 => by rw [e0]; exact q1 f f0 f1, fun f f0 f1 => by rw [e0]; exact q2 f f0 f1⟩, fun y y0 y1 y6 => by rw [h y (by omega) y1]; exact q3 y y0 y1 y6, ?_⟩
  unfold ChR
  rw [e6]
  exact q4
def S_G0 : Sp := fun n as μ Q => ∃ k : Nat, as = [kR k] ∧ k ∈ ([156, 167] : List Nat) ∧ n = k + 1 ∧ μ k = dfl 0 ∧ ∀ μ' : Mem, Frm k 10 μ μ' → GmK k μ' → Q μ' none
theorem S_G0_mk {n : Nat} {as : List AV} {μ : Mem} {Q : Mem → Option AV → Prop} (k : Nat) (h1 : as = [kR k]) (h2 : k ∈ ([156, 167] : List Nat)) (h3 : n = k + 1) (h4 : μ k = dfl 0) (h5 : ∀ μ' : Mem, Frm k 10 μ μ' → GmK k μ' → Q μ' none) : S_G0 n as μ Q := ⟨k, h1, h2, h3, h4, h5⟩
theorem g0_num : ∀ i : Nat, i < 24 → (((i : Int) * ((i : Int) - 1)).tdiv 2 = chV 2 i ∧ ((i : Int) * ((i : Int) - 1) * ((i : Int) - 2)).tdiv 6 = chV 3 i) ∧ (-1000000 ≤ (i : Int) * ((i : Int) - 1) ∧ (i : Int) * ((i : Int) - 1) ≤ 1000000) ∧ (-1000000 ≤ (i : Int) * ((i : Int) - 1) * ((i : Int) - 2) ∧ (i : Int) * ((i : Int) - 1) * ((i : Int) - 2) ≤ 1000000) := by decide +kernel
theorem la_X1 : ∀ k ∈ ([180] : List Nat), LAY k = (11, 6) ∧ arrsB (k + 1) [(0, 64), (1, 65), (1, 65), (1, 8), (0, 8)] = true := by decide +kernel
set_option maxRecDepth 20000 in
theorem ct_X1_init : Ct mX1_init 1 12 5 210 (S_ini 1 5 [180]) := by
  refine ct_of (own := RX1) (by decide +kernel) rfl ?_ ?_
  · intro n as μ Q hS
    obtain ⟨k, rfl, -⟩ := hS
    exact Nat.le_of_ble_eq_true rfl
  · intro G n as μ Q hS
    obtain ⟨k, rfl, hz, rfl, h0, hQ⟩ := hS
    obtain ⟨hK, hA⟩ := la_X1 k hz
    generalize hn : k + 1 = n at hA ⊢
    obtain ⟨hL1, hA⟩ := arrs_s hA
    obtain ⟨hL2, hA⟩ := arrs_s hA
    obtain ⟨hL3, hA⟩ := arrs_s hA
    obtain ⟨hL4, hA⟩ := arrs_s hA
    obtain ⟨hL5, hA⟩ := arrs_s hA
    refine k_aload_n (i := 0) (v := kR k) (Nat.le_refl 2) rfl (by decide +kernel) ?_
    refine k_objinit (idx := 3) (by omega) (in_ok (i := 386) (by decide +kernel) rfl) (in_ok (i := 23) (by decide +kernel) rfl) (in_ok (i := 24) (by decide +kernel) rfl) (by decide) (by decide) rfl (by decide +kernel) ?_
    refine k_aload_n (i := 0) (v := kR k) (Nat.le_refl 2) rfl (by decide +kernel) ?_
    refine k_bipush (c := 64) (by omega) (by decide +kernel) ?_
    refine k_newarray (a := .int) (N := 64) rfl (by omega) (by decide) AR_int hL1 (by omega) (by omega) (by decide +kernel) ?_
    refine k_putfield (idx := 9) (ci := 1) (f := 0) (pk_f (i := 387) (RX1, TX1, 6) rfl (by decide) rfl rfl (by decide +kernel) rfl rfl) (atO_k hK (by omega) (by decide)) trivial (by decide +kernel) ?_
    refine k_aload_n (i := 0) (v := kR k) (Nat.le_refl 2) rfl (by decide +kernel) ?_
    refine k_bipush (c := 65) (by omega) (by decide +kernel) ?_
    refine k_newarray (a := .long) (N := 65) rfl (by omega) (by decide) AR_long hL2 (by omega) (by omega) (by decide +kernel) ?_
    refine k_putfield (idx := 15) (ci := 1) (f := 1) (pk_f (i := 390) (RX1, TX1, 6) rfl (by decide) rfl rfl (by decide +kernel) rfl rfl) (atO_k hK (by omega) (by decide)) trivial (by decide +kernel) ?_
    refine k_aload_n (i := 0) (v := kR k) (Nat.le_refl 2) rfl (by decide +kernel) ?_
    refine k_bipush (c := 65) (by omega) (by decide +kernel) ?_
    refine k_newarray (a := .long) (N := 65) rfl (by omega) (by decide) AR_long hL3 (by omega) (by omega) (by decide +kernel) ?_
    refine k_putfield (idx := 19) (ci := 1) (f := 2) (pk_f (i := 392) (RX1, TX1, 6) rfl (by decide) rfl rfl (by decide +kernel) rfl rfl) (atO_k hK (by omega) (by decide)) trivial (by decide +kernel) ?_
    refine k_aload_n (i := 0) (v := kR k) (Nat.le_refl 2) rfl (by decide +kernel) ?_
    refine k_bipush (c := 8) (by omega) (by decide +kernel) ?_
    refine k_newarray (a := .long) (N := 8) rfl (by omega) (by decide) AR_long hL4 (by omega) (by omega) (by decide +kernel) ?_
    refine k_putfield (idx := 22) (ci := 1) (f := 3) (pk_f (i := 394) (RX1, TX1, 6) rfl (by decide) rfl rfl (by decide +kernel) rfl rfl) (atO_k hK (by omega) (by decide)) trivial (by decide +kernel) ?_
    refine k_aload_n (i := 0) (v := kR k) (Nat.le_refl 2) rfl (by decide +kernel) ?_
    refine k_bipush (c := 8) (by omega) (by decide +kernel) ?_
    refine k_newarray (a := .int) (N := 8) rfl (by omega) (by decide) AR_int hL5 (by omega) (by omega) (by decide +kernel) ?_
    refine k_putfield (idx := 25) (ci := 1) (f := 4) (pk_f (i := 395) (RX1, TX1, 6) rfl (by decide) rfl rfl (by decide +kernel) rfl rfl) (atO_k hK (by omega) (by decide)) trivial (by decide +kernel) ?_
    refine k_return rfl rfl rfl (by decide +kernel) ?_
    subst hn
    have q := mk_ok (ci := 1) (k := k) (fs := [0, 1, 2, 3, 4]) (by decide +kernel) h0
    exact hQ _ q.1 q.2
theorem la_X2 : ∀ k ∈ ([186] : List Nat), LAY k = (12, 11) ∧ arrsB (k + 1) [(0, 64), (1, 40), (1, 40), (1, 5), (0, 5), (0, 5), (1, 8), (1, 8)] = true := by decide +kernel
set_option maxRecDepth 20000 in
theorem ct_X2_init : Ct mX2_init 1 12 8 175 (S_ini 2 8 [186]) := by
  refine ct_of (own := RX2) (by decide +kernel) rfl ?_ ?_
  · intro n as μ Q hS
    obtain ⟨k, rfl, -⟩ := hS
    exact Nat.le_of_ble_eq_true rfl
  · intro G n as μ Q hS
    obtain ⟨k, rfl, hz, rfl, h0, hQ⟩ := hS
    obtain ⟨hK, hA⟩ := la_X2 k hz
    generalize hn : k + 1 = n at hA ⊢
    obtain ⟨hL1, hA⟩ := arrs_s hA
    obtain ⟨hL2, hA⟩ := arrs_s hA
    obtain ⟨hL3, hA⟩ := arrs_s hA
    obtain ⟨hL4, hA⟩ := arrs_s hA
    obtain ⟨hL5, hA⟩ := arrs_s hA
    obtain ⟨hL6, hA⟩ := arrs_s hA
    obtain ⟨hL7, hA⟩ := arrs_s hA
    obtain ⟨hL8, hA⟩ := arrs_s hA
    refine k_aload_n (i := 0) (v := kR k) (Nat.le_refl 2) rfl (by decide +kernel) ?_
    refine k_objinit (idx := 3) (by omega) (in_ok (i := 417) (by decide +kernel) rfl) (in_ok (i := 23) (by decide +kernel) rfl) (in_ok (i := 24) (by decide +kernel) rfl) (by decide) (by decide) rfl (by decide +kernel) ?_
    refine k_aload_n (i := 0) (v := kR k) (Nat.le_refl 2) rfl (by decide +kernel) ?_
    refine k_bipush (c := 64) (by omega) (by decide +kernel) ?_
    refine k_newarray (a := .int) (N := 64) rfl (by omega) (by decide) AR_int hL1 (by omega) (by omega) (by decide +kernel) ?_
    refine k_putfield (idx := 9) (ci := 2) (f := 0) (pk_f (i := 418) (RX2, TX2, 11) rfl (by decide) rfl rfl (by decide +kernel) rfl rfl) (atO_k hK (by omega) (by decide)) trivial (by decide +kernel) ?_
    refine k_aload_n (i := 0) (v := kR k) (Nat.le_refl 2) rfl (by decide +kernel) ?_
    refine k_bipush (c := 40) (by omega) (by decide +kernel) ?_
    refine k_newarray (a := .long) (N := 40) rfl (by omega) (by decide) AR_long hL2 (by omega) (by omega) (by decide +kernel) ?_
    refine k_putfield (idx := 15) (ci := 2) (f := 1) (pk_f (i := 419) (RX2, TX2, 11) rfl (by decide) rfl rfl (by decide +kernel) rfl rfl) (atO_k hK (by omega) (by decide)) trivial (by decide +kernel) ?_
    refine k_aload_n (i := 0) (v := kR k) (Nat.le_refl 2) rfl (by decide +kernel) ?_
    refine k_bipush (c := 40) (by omega) (by decide +kernel) ?_
    refine k_newarray (a := .long) (N := 40) rfl (by omega) (by decide) AR_long hL3 (by omega) (by omega) (by decide +kernel) ?_
    refine k_putfield (idx := 19) (ci := 2) (f := 2) (pk_f (i := 420) (RX2, TX2, 11) rfl (by decide) rfl rfl (by decide +kernel) rfl rfl) (atO_k hK (by omega) (by decide)) trivial (by decide +kernel) ?_
    refine k_aload_n (i := 0) (v := kR k) (Nat.le_refl 2) rfl (by decide +kernel) ?_
    refine k_iconst (c := 5) (by decide +kernel) ?_
    refine k_newarray (a := .long) (N := 5) rfl (by omega) (by decide) AR_long hL4 (by omega) (by omega) (by decide +kernel) ?_
    refine k_putfield (idx := 22) (ci := 2) (f := 3) (pk_f (i := 421) (RX2, TX2, 11) rfl (by decide) rfl rfl (by decide +kernel) rfl rfl) (atO_k hK (by omega) (by decide)) trivial (by decide +kernel) ?_
    refine k_aload_n (i := 0) (v := kR k) (Nat.le_refl 2) rfl (by decide +kernel) ?_
    refine k_iconst (c := 5) (by decide +kernel) ?_
    refine k_newarray (a := .int) (N := 5) rfl (by omega) (by decide) AR_int hL5 (by omega) (by omega) (by decide +kernel) ?_
    refine k_putfield (idx := 25) (ci := 2) (f := 4) (pk_f (i := 422) (RX2, TX2, 11) rfl (by decide) rfl rfl (by decide +kernel) rfl rfl) (atO_k hK (by omega) (by decide)) trivial (by decide +kernel) ?_
    refine k_aload_n (i := 0) (v := kR k) (Nat.le_refl 2) rfl (by decide +kernel) ?_
    refine k_iconst (c := 5) (by decide +kernel) ?_
    refine k_newarray (a := .int) (N := 5) rfl (by omega) (by decide) AR_int hL6 (by omega) (by omega) (by decide +kernel) ?_
    refine k_putfield (idx := 28) (ci := 2) (f := 5) (pk_f (i := 423) (RX2, TX2, 11) rfl (by decide) rfl rfl (by decide +kernel) rfl rfl) (atO_k hK (by omega) (by decide)) trivial (by decide +kernel) ?_
    refine k_aload_n (i := 0) (v := kR k) (Nat.le_refl 2) rfl (by decide +kernel) ?_
    refine k_bipush (c := 8) (by omega) (by decide +kernel) ?_
    refine k_newarray (a := .long) (N := 8) rfl (by omega) (by decide) AR_long hL7 (by omega) (by omega) (by decide +kernel) ?_
    refine k_putfield (idx := 31) (ci := 2) (f := 6) (pk_f (i := 425) (RX2, TX2, 11) rfl (by decide) rfl rfl (by decide +kernel) rfl rfl) (atO_k hK (by omega) (by decide)) trivial (by decide +kernel) ?_
    refine k_aload_n (i := 0) (v := kR k) (Nat.le_refl 2) rfl (by decide +kernel) ?_
    refine k_bipush (c := 8) (by omega) (by decide +kernel) ?_
    refine k_newarray (a := .long) (N := 8) rfl (by omega) (by decide) AR_long hL8 (by omega) (by omega) (by decide +kernel) ?_
    refine k_putfield (idx := 34) (ci := 2) (f := 7) (pk_f (i := 427) (RX2, TX2, 11) rfl (by decide) rfl rfl (by decide +kernel) rfl rfl) (atO_k hK (by omega) (by decide)) trivial (by decide +kernel) ?_
    refine k_return rfl rfl rfl (by decide +kernel) ?_
    subst hn
    have q := mk_ok (ci := 2) (k := k) (fs := [0, 1, 2, 3, 4, 5, 6, 7]) (by decide +kernel) h0
    exact hQ _ q.1 q.2
theorem la_X3 : ∀ k ∈ ([178] : List Nat), LAY k = (13, 10) ∧ arrsB (k + 1) [(0, 64)] = true := by decide +kernel
set_option maxRecDepth 20000 in
theorem ct_X3_init : Ct mX3_init 1 12 1 64 (S_ini 3 1 [178]) := by
  refine ct_of (own := RX3) (by decide +kernel) rfl ?_ ?_
  · intro n as μ Q hS
    obtain ⟨k, rfl, -⟩ := hS
    exact Nat.le_of_ble_eq_true rfl
  · intro G n as μ Q hS
    obtain ⟨k, rfl, hz, rfl, h0, hQ⟩ := hS
    obtain ⟨hK, hA⟩ := la_X3 k hz
    generalize hn : k + 1 = n at hA ⊢
    obtain ⟨hL1, hA⟩ := arrs_s hA
    refine k_aload_n (i := 0) (v := kR k) (Nat.le_refl 2) rfl (by decide +kernel) ?_
    refine k_objinit (idx := 3) (by omega) (in_ok (i := 342) (by decide +kernel) rfl) (in_ok (i := 23) (by decide +kernel) rfl) (in_ok (i := 24) (by decide +kernel) rfl) (by decide) (by decide) rfl (by decide +kernel) ?_
    refine k_aload_n (i := 0) (v := kR k) (Nat.le_refl 2) rfl (by decide +kernel) ?_
    refine k_bipush (c := 64) (by omega) (by decide +kernel) ?_
    refine k_newarray (a := .int) (N := 64) rfl (by omega) (by decide) AR_int hL1 (by omega) (by omega) (by decide +kernel) ?_
    refine k_putfield (idx := 9) (ci := 3) (f := 0) (pk_f (i := 343) (RX3, TX3, 10) rfl (by decide) rfl rfl (by decide +kernel) rfl rfl) (atO_k hK (by omega) (by decide)) trivial (by decide +kernel) ?_
    refine k_return rfl rfl rfl (by decide +kernel) ?_
    subst hn
    have q := mk_ok (ci := 3) (k := k) (fs := [0]) (by decide +kernel) h0
    exact hQ _ q.1 q.2
theorem la_X4 : ∀ k ∈ ([198] : List Nat), LAY k = (14, 3) ∧ arrsB (k + 1) [(0, 256), (0, 8)] = true := by decide +kernel
set_option maxRecDepth 20000 in
theorem ct_X4_init : Ct mX4_init 1 12 2 264 (S_ini 4 2 [198]) := by
  refine ct_of (own := RX4) (by decide +kernel) rfl ?_ ?_
  · intro n as μ Q hS
    obtain ⟨k, rfl, -⟩ := hS
    exact Nat.le_of_ble_eq_true rfl
  · intro G n as μ Q hS
    obtain ⟨k, rfl, hz, rfl, h0, hQ⟩ := hS
    obtain ⟨hK, hA⟩ := la_X4 k hz
    generalize hn : k + 1 = n at hA ⊢
    obtain ⟨hL1, hA⟩ := arrs_s hA
    obtain ⟨hL2, hA⟩ := arrs_s hA
    refine k_aload_n (i := 0) (v := kR k) (Nat.le_refl 2) rfl (by decide +kernel) ?_
    refine k_objinit (idx := 3) (by omega) (in_ok (i := 481) (by decide +kernel) rfl) (in_ok (i := 23) (by decide +kernel) rfl) (in_ok (i := 24) (by decide +kernel) rfl) (by decide) (by decide) rfl (by decide +kernel) ?_
    refine k_aload_n (i := 0) (v := kR k) (Nat.le_refl 2) rfl (by decide +kernel) ?_
    refine k_sipush (c := 256) (by omega) (by decide +kernel) ?_
    refine k_newarray (a := .int) (N := 256) rfl (by omega) (by decide) AR_int hL1 (by omega) (by omega) (by decide +kernel) ?_
    refine k_putfield (idx := 9) (ci := 4) (f := 0) (pk_f (i := 482) (RX4, TX4, 3) rfl (by decide) rfl rfl (by decide +kernel) rfl rfl) (atO_k hK (by omega) (by decide)) trivial (by decide +kernel) ?_
    refine k_aload_n (i := 0) (v := kR k) (Nat.le_refl 2) rfl (by decide +kernel) ?_
    refine k_bipush (c := 8) (by omega) (by decide +kernel) ?_
    refine k_newarray (a := .int) (N := 8) rfl (by omega) (by decide) AR_int hL2 (by omega) (by omega) (by decide +kernel) ?_
    refine k_putfield (idx := 15) (ci := 4) (f := 1) (pk_f (i := 483) (RX4, TX4, 3) rfl (by decide) rfl rfl (by decide +kernel) rfl rfl) (atO_k hK (by omega) (by decide)) trivial (by decide +kernel) ?_
    refine k_return rfl rfl rfl (by decide +kernel) ?_
    subst hn
    have q := mk_ok (ci := 4) (k := k) (fs := [0, 1]) (by decide +kernel) h0
    exact hQ _ q.1 q.2
theorem la_X5 : ∀ k ∈ ([145] : List Nat), LAY k = (15, 6) ∧ arrsB (k + 1) [(0, 501), (0, 501), (0, 501)] = true := by decide +kernel
set_option maxRecDepth 20000 in
theorem ct_X5_init : Ct mX5_init 1 12 3 1503 (S_ini 5 3 [145]) := by
  refine ct_of (own := RX5) (by decide +kernel) rfl ?_ ?_
  · intro n as μ Q hS
    obtain ⟨k, rfl, -⟩ := hS
    exact Nat.le_of_ble_eq_true rfl
  · intro G n as μ Q hS
    obtain ⟨k, rfl, hz, rfl, h0, hQ⟩ := hS
    obtain ⟨hK, hA⟩ := la_X5 k hz
    generalize hn : k + 1 = n at hA ⊢
    obtain ⟨hL1, hA⟩ := arrs_s hA
    obtain ⟨hL2, hA⟩ := arrs_s hA
    obtain ⟨hL3, hA⟩ := arrs_s hA
    refine k_aload_n (i := 0) (v := kR k) (Nat.le_refl 2) rfl (by decide +kernel) ?_
    refine k_objinit (idx := 3) (by omega) (in_ok (i := 194) (by decide +kernel) rfl) (in_ok (i := 23) (by decide +kernel) rfl) (in_ok (i := 24) (by decide +kernel) rfl) (by decide) (by decide) rfl (by decide +kernel) ?_
    refine k_aload_n (i := 0) (v := kR k) (Nat.le_refl 2) rfl (by decide +kernel) ?_
    refine k_sipush (c := 501) (by omega) (by decide +kernel) ?_
    refine k_newarray (a := .int) (N := 501) rfl (by omega) (by decide) AR_int hL1 (by omega) (by omega) (by decide +kernel) ?_
    refine k_putfield (idx := 9) (ci := 5) (f := 0) (pk_f (i := 195) (RX5, TX5, 6) rfl (by decide) rfl rfl (by decide +kernel) rfl rfl) (atO_k hK (by omega) (by decide)) trivial (by decide +kernel) ?_
    refine k_aload_n (i := 0) (v := kR k) (Nat.le_refl 2) rfl (by decide +kernel) ?_
    refine k_sipush (c := 501) (by omega) (by decide +kernel) ?_
    refine k_newarray (a := .int) (N := 501) rfl (by omega) (by decide) AR_int hL2 (by omega) (by omega) (by decide +kernel) ?_
    refine k_putfield (idx := 15) (ci := 5) (f := 1) (pk_f (i := 196) (RX5, TX5, 6) rfl (by decide) rfl rfl (by decide +kernel) rfl rfl) (atO_k hK (by omega) (by decide)) trivial (by decide +kernel) ?_
    refine k_aload_n (i := 0) (v := kR k) (Nat.le_refl 2) rfl (by decide +kernel) ?_
    refine k_sipush (c := 501) (by omega) (by decide +kernel) ?_
    refine k_newarray (a := .int) (N := 501) rfl (by omega) (by decide) AR_int hL3 (by omega) (by omega) (by decide +kernel) ?_
    refine k_putfield (idx := 18) (ci := 5) (f := 2) (pk_f (i := 197) (RX5, TX5, 6) rfl (by decide) rfl rfl (by decide +kernel) rfl rfl) (atO_k hK (by omega) (by decide)) trivial (by decide +kernel) ?_
    refine k_return rfl rfl rfl (by decide +kernel) ?_
    subst hn
    have q := mk_ok (ci := 5) (k := k) (fs := [0, 1, 2]) (by decide +kernel) h0
    exact hQ _ q.1 q.2
theorem la_X6 : ∀ k ∈ ([149] : List Nat), LAY k = (16, 12) ∧ arrsB (k + 1) [(0, 256), (0, 256), (0, 256), (0, 2048), (0, 64), (0, 8)] = true := by decide +kernel
set_option maxRecDepth 20000 in
theorem ct_X6_init : Ct mX6_init 1 12 6 2888 (S_ini 6 6 [149]) := by
  refine ct_of (own := RX6) (by decide +kernel) rfl ?_ ?_
  · intro n as μ Q hS
    obtain ⟨k, rfl, -⟩ := hS
    exact Nat.le_of_ble_eq_true rfl
  · intro G n as μ Q hS
    obtain ⟨k, rfl, hz, rfl, h0, hQ⟩ := hS
    obtain ⟨hK, hA⟩ := la_X6 k hz
    generalize hn : k + 1 = n at hA ⊢
    obtain ⟨hL1, hA⟩ := arrs_s hA
    obtain ⟨hL2, hA⟩ := arrs_s hA
    obtain ⟨hL3, hA⟩ := arrs_s hA
    obtain ⟨hL4, hA⟩ := arrs_s hA
    obtain ⟨hL5, hA⟩ := arrs_s hA
    obtain ⟨hL6, hA⟩ := arrs_s hA
    refine k_aload_n (i := 0) (v := kR k) (Nat.le_refl 2) rfl (by decide +kernel) ?_
    refine k_objinit (idx := 3) (by omega) (in_ok (i := 222) (by decide +kernel) rfl) (in_ok (i := 23) (by decide +kernel) rfl) (in_ok (i := 24) (by decide +kernel) rfl) (by decide) (by decide) rfl (by decide +kernel) ?_
    refine k_aload_n (i := 0) (v := kR k) (Nat.le_refl 2) rfl (by decide +kernel) ?_
    refine k_sipush (c := 256) (by omega) (by decide +kernel) ?_
    refine k_newarray (a := .int) (N := 256) rfl (by omega) (by decide) AR_int hL1 (by omega) (by omega) (by decide +kernel) ?_
    refine k_putfield (idx := 9) (ci := 6) (f := 0) (pk_f (i := 223) (RX6, TX6, 12) rfl (by decide) rfl rfl (by decide +kernel) rfl rfl) (atO_k hK (by omega) (by decide)) trivial (by decide +kernel) ?_
    refine k_aload_n (i := 0) (v := kR k) (Nat.le_refl 2) rfl (by decide +kernel) ?_
    refine k_sipush (c := 256) (by omega) (by decide +kernel) ?_
    refine k_newarray (a := .int) (N := 256) rfl (by omega) (by decide) AR_int hL2 (by omega) (by omega) (by decide +kernel) ?_
    refine k_putfield (idx := 15) (ci := 6) (f := 1) (pk_f (i := 224) (RX6, TX6, 12) rfl (by decide) rfl rfl (by decide +kernel) rfl rfl) (atO_k hK (by omega) (by decide)) trivial (by decide +kernel) ?_
    refine k_aload_n (i := 0) (v := kR k) (Nat.le_refl 2) rfl (by decide +kernel) ?_
    refine k_sipush (c := 256) (by omega) (by decide +kernel) ?_
    refine k_newarray (a := .int) (N := 256) rfl (by omega) (by decide) AR_int hL3 (by omega) (by omega) (by decide +kernel) ?_
    refine k_putfield (idx := 18) (ci := 6) (f := 2) (pk_f (i := 225) (RX6, TX6, 12) rfl (by decide) rfl rfl (by decide +kernel) rfl rfl) (atO_k hK (by omega) (by decide)) trivial (by decide +kernel) ?_
    refine k_aload_n (i := 0) (v := kR k) (Nat.le_refl 2) rfl (by decide +kernel) ?_
    refine k_sipush (c := 2048) (by omega) (by decide +kernel) ?_
    refine k_newarray (a := .int) (N := 2048) rfl (by omega) (by decide) AR_int hL4 (by omega) (by omega) (by decide +kernel) ?_
    refine k_putfield (idx := 21) (ci := 6) (f := 3) (pk_f (i := 226) (RX6, TX6, 12) rfl (by decide) rfl rfl (by decide +kernel) rfl rfl) (atO_k hK (by omega) (by decide)) trivial (by decide +kernel) ?_
    refine k_aload_n (i := 0) (v := kR k) (Nat.le_refl 2) rfl (by decide +kernel) ?_
    refine k_bipush (c := 64) (by omega) (by decide +kernel) ?_
    refine k_newarray (a := .int) (N := 64) rfl (by omega) (by decide) AR_int hL5 (by omega) (by omega) (by decide +kernel) ?_
    refine k_putfield (idx := 24) (ci := 6) (f := 4) (pk_f (i := 227) (RX6, TX6, 12) rfl (by decide) rfl rfl (by decide +kernel) rfl rfl) (atO_k hK (by omega) (by decide)) trivial (by decide +kernel) ?_
    refine k_aload_n (i := 0) (v := kR k) (Nat.le_refl 2) rfl (by decide +kernel) ?_
    refine k_bipush (c := 8) (by omega) (by decide +kernel) ?_
    refine k_newarray (a := .int) (N := 8) rfl (by omega) (by decide) AR_int hL6 (by omega) (by omega) (by decide +kernel) ?_
    refine k_putfield (idx := 27) (ci := 6) (f := 5) (pk_f (i := 228) (RX6, TX6, 12) rfl (by decide) rfl rfl (by decide +kernel) rfl rfl) (atO_k hK (by omega) (by decide)) trivial (by decide +kernel) ?_
    refine k_return rfl rfl rfl (by decide +kernel) ?_
    subst hn
    have q := mk_ok (ci := 6) (k := k) (fs := [0, 1, 2, 3, 4, 5]) (by decide +kernel) h0
    exact hQ _ q.1 q.2
theorem la_X7 : ∀ k ∈ ([4, 14, 24, 38, 48, 58, 71, 81, 91, 104, 114, 124, 135] : List Nat), LAY k = (17, 18) ∧ arrsB (k + 1) [(0, 64), (0, 64), (0, 8), (0, 8), (0, 8), (0, 128), (0, 8), (0, 8), (0, 7)] = true := by decide +kernel
set_option maxRecDepth 20000 in
theorem ct_X7_init : Ct mX7_init 1 12 9 303 (S_ini 7 9 [4, 14, 24, 38, 48, 58, 71, 81, 91, 104, 114, 124, 135]) := by
  refine ct_of (own := RX7) (by decide +kernel) rfl ?_ ?_
  · intro n as μ Q hS
    obtain ⟨k, rfl, -⟩ := hS
    exact Nat.le_of_ble_eq_true rfl
  · intro G n as μ Q hS
    obtain ⟨k, rfl, hz, rfl, h0, hQ⟩ := hS
    obtain ⟨hK, hA⟩ := la_X7 k hz
    generalize hn : k + 1 = n at hA ⊢
    obtain ⟨hL1, hA⟩ := arrs_s hA
    obtain ⟨hL2, hA⟩ := arrs_s hA
    obtain ⟨hL3, hA⟩ := arrs_s hA
    obtain ⟨hL4, hA⟩ := arrs_s hA
    obtain ⟨hL5, hA⟩ := arrs_s hA
    obtain ⟨hL6, hA⟩ := arrs_s hA
    obtain ⟨hL7, hA⟩ := arrs_s hA
    obtain ⟨hL8, hA⟩ := arrs_s hA
    obtain ⟨hL9, hA⟩ := arrs_s hA
    refine k_aload_n (i := 0) (v := kR k) (Nat.le_refl 2) rfl (by decide +kernel) ?_
    refine k_objinit (idx := 3) (by omega) (in_ok (i := 37) (by decide +kernel) rfl) (in_ok (i := 23) (by decide +kernel) rfl) (in_ok (i := 24) (by decide +kernel) rfl) (by decide) (by decide) rfl (by decide +kernel) ?_
    refine k_aload_n (i := 0) (v := kR k) (Nat.le_refl 2) rfl (by decide +kernel) ?_
    refine k_bipush (c := 64) (by omega) (by decide +kernel) ?_
    refine k_newarray (a := .int) (N := 64) rfl (by omega) (by decide) AR_int hL1 (by omega) (by omega) (by decide +kernel) ?_
    refine k_putfield (idx := 9) (ci := 7) (f := 7) (pk_f (i := 65) (RX7, TX7, 18) rfl (by decide) rfl rfl (by decide +kernel) rfl rfl) (atO_k hK (by omega) (by decide)) trivial (by decide +kernel) ?_
    refine k_aload_n (i := 0) (v := kR k) (Nat.le_refl 2) rfl (by decide +kernel) ?_
    refine k_bipush (c := 64) (by omega) (by decide +kernel) ?_
    refine k_newarray (a := .int) (N := 64) rfl (by omega) (by decide) AR_int hL2 (by omega) (by omega) (by decide +kernel) ?_
    refine k_putfield (idx := 15) (ci := 7) (f := 8) (pk_f (i := 67) (RX7, TX7, 18) rfl (by decide) rfl rfl (by decide +kernel) rfl rfl) (atO_k hK (by omega) (by decide)) trivial (by decide +kernel) ?_
    refine k_aload_n (i := 0) (v := kR k) (Nat.le_refl 2) rfl (by decide +kernel) ?_
    refine k_bipush (c := 8) (by omega) (by decide +kernel) ?_
    refine k_newarray (a := .int) (N := 8) rfl (by omega) (by decide) AR_int hL3 (by omega) (by omega) (by decide +kernel) ?_
    refine k_putfield (idx := 18) (ci := 7) (f := 9) (pk_f (i := 73) (RX7, TX7, 18) rfl (by decide) rfl rfl (by decide +kernel) rfl rfl) (atO_k hK (by omega) (by decide)) trivial (by decide +kernel) ?_
    refine k_aload_n (i := 0) (v := kR k) (Nat.le_refl 2) rfl (by decide +kernel) ?_
    refine k_bipush (c := 8) (by omega) (by decide +kernel) ?_
    refine k_newarray (a := .int) (N := 8) rfl (by omega) (by decide) AR_int hL4 (by omega) (by omega) (by decide +kernel) ?_
    refine k_putfield (idx := 21) (ci := 7) (f := 10) (pk_f (i := 78) (RX7, TX7, 18) rfl (by decide) rfl rfl (by decide +kernel) rfl rfl) (atO_k hK (by omega) (by decide)) trivial (by decide +kernel) ?_
    refine k_aload_n (i := 0) (v := kR k) (Nat.le_refl 2) rfl (by decide +kernel) ?_
    refine k_bipush (c := 8) (by omega) (by decide +kernel) ?_
    refine k_newarray (a := .int) (N := 8) rfl (by omega) (by decide) AR_int hL5 (by omega) (by omega) (by decide +kernel) ?_
    refine k_putfield (idx := 24) (ci := 7) (f := 11) (pk_f (i := 84) (RX7, TX7, 18) rfl (by decide) rfl rfl (by decide +kernel) rfl rfl) (atO_k hK (by omega) (by decide)) trivial (by decide +kernel) ?_
    refine k_aload_n (i := 0) (v := kR k) (Nat.le_refl 2) rfl (by decide +kernel) ?_
    refine k_sipush (c := 128) (by omega) (by decide +kernel) ?_
    refine k_newarray (a := .int) (N := 128) rfl (by omega) (by decide) AR_int hL6 (by omega) (by omega) (by decide +kernel) ?_
    refine k_putfield (idx := 27) (ci := 7) (f := 13) (pk_f (i := 91) (RX7, TX7, 18) rfl (by decide) rfl rfl (by decide +kernel) rfl rfl) (atO_k hK (by omega) (by decide)) trivial (by decide +kernel) ?_
    refine k_aload_n (i := 0) (v := kR k) (Nat.le_refl 2) rfl (by decide +kernel) ?_
    refine k_bipush (c := 8) (by omega) (by decide +kernel) ?_
    refine k_newarray (a := .int) (N := 8) rfl (by omega) (by decide) AR_int hL7 (by omega) (by omega) (by decide +kernel) ?_
    refine k_putfield (idx := 30) (ci := 7) (f := 14) (pk_f (i := 93) (RX7, TX7, 18) rfl (by decide) rfl rfl (by decide +kernel) rfl rfl) (atO_k hK (by omega) (by decide)) trivial (by decide +kernel) ?_
    refine k_aload_n (i := 0) (v := kR k) (Nat.le_refl 2) rfl (by decide +kernel) ?_
    refine k_bipush (c := 8) (by omega) (by decide +kernel) ?_
    refine k_newarray (a := .int) (N := 8) rfl (by omega) (by decide) AR_int hL8 (by omega) (by omega) (by decide +kernel) ?_
    refine k_putfield (idx := 33) (ci := 7) (f := 15) (pk_f (i := 95) (RX7, TX7, 18) rfl (by decide) rfl rfl (by decide +kernel) rfl rfl) (atO_k hK (by omega) (by decide)) trivial (by decide +kernel) ?_
    refine k_aload_n (i := 0) (v := kR k) (Nat.le_refl 2) rfl (by decide +kernel) ?_
    refine k_bipush (c := 7) (by omega) (by decide +kernel) ?_
    refine k_newarray (a := .int) (N := 7) rfl (by omega) (by decide) AR_int hL9 (by omega) (by omega) (by decide +kernel) ?_
    refine k_putfield (idx := 36) (ci := 7) (f := 17) (pk_f (i := 100) (RX7, TX7, 18) rfl (by decide) rfl rfl (by decide +kernel) rfl rfl) (atO_k hK (by omega) (by decide)) trivial (by decide +kernel) ?_
    refine k_return rfl rfl rfl (by decide +kernel) ?_
    subst hn
    have q := mk_ok (ci := 7) (k := k) (fs := [7, 8, 9, 10, 11, 13, 14, 15, 17]) (by decide +kernel) h0
    exact hQ _ q.1 q.2
theorem la_X8 : ∀ k ∈ ([195] : List Nat), LAY k = (18, 4) ∧ arrsB (k + 1) [(0, 8), (0, 8)] = true := by decide +kernel
set_option maxRecDepth 20000 in
theorem ct_X8_init : Ct mX8_init 1 12 2 16 (S_ini 8 2 [195]) := by
  refine ct_of (own := RX8) (by decide +kernel) rfl ?_ ?_
  · intro n as μ Q hS
    obtain ⟨k, rfl, -⟩ := hS
    exact Nat.le_of_ble_eq_true rfl
  · intro G n as μ Q hS
    obtain ⟨k, rfl, hz, rfl, h0, hQ⟩ := hS
    obtain ⟨hK, hA⟩ := la_X8 k hz
    generalize hn : k + 1 = n at hA ⊢
    obtain ⟨hL1, hA⟩ := arrs_s hA
    obtain ⟨hL2, hA⟩ := arrs_s hA
    refine k_aload_n (i := 0) (v := kR k) (Nat.le_refl 2) rfl (by decide +kernel) ?_
    refine k_objinit (idx := 3) (by omega) (in_ok (i := 460) (by decide +kernel) rfl) (in_ok (i := 23) (by decide +kernel) rfl) (in_ok (i := 24) (by decide +kernel) rfl) (by decide) (by decide) rfl (by decide +kernel) ?_
    refine k_aload_n (i := 0) (v := kR k) (Nat.le_refl 2) rfl (by decide +kernel) ?_
    refine k_bipush (c := 8) (by omega) (by decide +kernel) ?_
    refine k_newarray (a := .int) (N := 8) rfl (by omega) (by decide) AR_int hL1 (by omega) (by omega) (by decide +kernel) ?_
    refine k_putfield (idx := 9) (ci := 8) (f := 0) (pk_f (i := 461) (RX8, TX8, 4) rfl (by decide) rfl rfl (by decide +kernel) rfl rfl) (atO_k hK (by omega) (by decide)) trivial (by decide +kernel) ?_
    refine k_aload_n (i := 0) (v := kR k) (Nat.le_refl 2) rfl (by decide +kernel) ?_
    refine k_bipush (c := 8) (by omega) (by decide +kernel) ?_
    refine k_newarray (a := .int) (N := 8) rfl (by omega) (by decide) AR_int hL2 (by omega) (by omega) (by decide +kernel) ?_
    refine k_putfield (idx := 15) (ci := 8) (f := 1) (pk_f (i := 462) (RX8, TX8, 4) rfl (by decide) rfl rfl (by decide +kernel) rfl rfl) (atO_k hK (by omega) (by decide)) trivial (by decide +kernel) ?_
    refine k_return rfl rfl rfl (by decide +kernel) ?_
    subst hn
    have q := mk_ok (ci := 8) (k := k) (fs := [0, 1]) (by decide +kernel) h0
    exact hQ _ q.1 q.2
