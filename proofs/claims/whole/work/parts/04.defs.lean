/-! the objects, in the order in which they are made: kind, size. Kinds: 0 int[], 1 long[], 2 byte[], 3 boolean[], 4 Town[], 5 World[], 6 char[], 10 + c an object of class c -/
abbrev AV : Type := Nat × Int
abbrev Mem : Type := Int → Int → Int
/-- class ids, slots of fields, class ids of arrays by kind, where our cells begin, where the static arrays lie -/
abbrev Cxt : Type := (Nat → ClassId) × (Nat → Nat → Nat) × (Nat → ClassId) × Nat × (Nat → Nat)
abbrev kI (z : Int) : AV := (0, z)
abbrev kL (z : Int) : AV := (1, z)
abbrev kR (z : Int) : AV := (2, z)
abbrev kS (z : Int) : AV := (3, z)
def lay : List (Nat × Nat) := [(20, 14), (19, 11), (2, 500), (4, 3), (17, 18), (0, 64), (0, 64), (0, 8), (0, 8), (0, 8), (0, 128), (0, 8), (0, 8), (0, 7), (17, 18), (0, 64), (0, 64), (0, 8), (0, 8), (0, 8), (0, 128), (0, 8), (0, 8), (0, 7), (17, 18), (0, 64), (0, 64), (0, 8), (0, 8), (0, 8), (0, 128), (0, 8), (0, 8), (0, 7), (5, 3), (19, 11), (2, 500), (4, 3), (17, 18), (0, 64), (0, 64), (0, 8), (0, 8), (0, 8), (0, 128), (0, 8), (0, 8), (0, 7), (17, 18), (0, 64), (0, 64), (0, 8), (0, 8), (0, 8), (0, 128), (0, 8), (0, 8), (0, 7), (17, 18), (0, 64), (0, 64), (0, 8), (0, 8), (0, 8), (0, 128), (0, 8), (0, 8), (0, 7), (19, 11), (2, 500), (4, 3), (17, 18), (0, 64), (0, 64), (0, 8), (0, 8), (0, 8), (0, 128), (0, 8), (0, 8), (0, 7), (17, 18), (0, 64), (0, 64), (0, 8), (0, 8), (0, 8), (0, 128), (0, 8), (0, 8), (0, 7), (17, 18), (0, 64), (0, 64), (0, 8), (0, 8), (0, 8), (0, 128), (0, 8), (0, 8), (0, 7), (19, 11), (2, 500), (4, 3), (17, 18), (0, 64), (0, 64), (0, 8), (0, 8), (0, 8), (0, 128), (0, 8), (0, 8), (0, 7), (17, 18), (0, 64), (0, 64), (0, 8), (0, 8), (0, 8), (0, 128), (0, 8), (0, 8), (0, 7), (17, 18), (0, 64), (0, 64), (0, 8), (0, 8), (0, 8), (0, 128), (0, 8), (0, 8), (0, 7), (3, 3), (17, 18), (0, 64), (0, 64), (0, 8), (0, 8), (0, 8), (0, 128), (0, 8), (0, 8), (0, 7), (15, 6), (0, 501), (0, 501), (0, 501), (16, 12), (0, 256), (0, 256), (0, 256), (0, 2048), (0, 64), (0, 8), (10, 19), (0, 4), (0, 96), (0, 96), (0, 4), (0, 4), (0, 96), (1, 2024), (1, 9), (1, 4), (1, 4), (10, 19), (0, 4), (0, 96), (0, 96), (0, 4), (0, 4), (0, 96), (1, 2024), (1, 9), (1, 4), (1, 4), (13, 10), (0, 64), (11, 6), (0, 64), (1, 65), (1, 65), (1, 8), (0, 8), (12, 11), (0, 64), (1, 40), (1, 40), (1, 5), (0, 5), (0, 5), (1, 8), (1, 8), (18, 4), (0, 8), (0, 8), (14, 3), (0, 256), (0, 8), (21, 52), (0, 5160), (3, 3), (0, 104), (0, 7), (0, 64), (0, 128), (0, 1024), (0, 96), (0, 4), (0, 4), (0, 4), (1, 4), (1, 4), (0, 8), (0, 8), (0, 8), (0, 8), (0, 8), (0, 64), (1, 65), (0, 8), (1, 48), (1, 6), (0, 5), (0, 5), (0, 8), (0, 2304), (0, 256), (1, 8), (1, 8)]
def LAY (o : Nat) : Nat × Nat := lay.getD o (99, 0)
abbrev vwCl : List vw_C := [(RX0, TX0, 19), (RX1, TX1, 6), (RX2, TX2, 11), (RX3, TX3, 10), (RX4, TX4, 3), (RX5, TX5, 6), (RX6, TX6, 12), (RX7, TX7, 18), (RX8, TX8, 4), (RX9, TX9, 11), (RX10, TX10, 14), (RX11, TX11, 52)]
def TYS (ci : Nat) : Nat → FieldType := match ci with
  | 0 => tyX0
  | 1 => tyX1
  | 2 => tyX2
  | 3 => tyX3
  | 4 => tyX4
  | 5 => tyX5
  | 6 => tyX6
  | 7 => tyX7
  | 8 => tyX8
  | 9 => tyX9
  | 10 => tyX10
  | 11 => tyX11
  | _ => fun _ => .int
def tgOf (ty : FieldType) : Nat := match ty with
  | .long => 1
  | .object _ => 2
  | .array _ => 2
  | _ => 0
abbrev b0 (G : Cxt) : Nat := G.2.2.2.1
abbrev AG (G : Cxt) : Nat → Prop := fun q => b0 G ≤ q
def rfo (G : Cxt) (z : Int) : Option Nat := if z < 0 then none else some (b0 G + z.toNat)
def cv (G : Cxt) (v : AV) : Value := match v with
  | (0, z) => .int (Int32.ofInt z)
  | (1, z) => .long (Int64.ofInt z)
  | (2, z) => va_rf (rfo G z)
  | (_ + 3, z) => .ref (G.2.2.2.2 z.toNat)
def fvs (G : Cxt) (ci N : Nat) (f : Int → Int) : List Value := (List.range N).map fun k => cv G (tgOf (TYS ci k), f k)
def cont (G : Cxt) (o : Nat) (f : Int → Int) : va_E := match LAY o with
  | (0, N) => .inl (G.2.2.1 0, N, .inl fun j => Int32.ofInt (f j))
  | (1, N) => .inl (G.2.2.1 1, N, .inr (.inl fun j => Int64.ofInt (f j)))
  | (2, N) => .inl (G.2.2.1 2, N, .inl fun j => Int32.ofInt (f j))
  | (3, N) => .inl (G.2.2.1 3, N, .inl fun j => Int32.ofInt (f j))
  | (4, N) => .inl (G.2.2.1 4, N, .inr (.inr (.inr (.inr fun j => rfo G (f j)))))
  | (5, N) => .inl (G.2.2.1 5, N, .inr (.inr (.inr (.inr fun j => rfo G (f j)))))
  | (k, N) => .inr (k - 10, fvs G (k - 10) N f)
def wrld (G : Cxt) (n : Nat) (μ : Mem) : va_W := (List.range n).map fun o => (b0 G + o, cont G o (μ o))
abbrev DG (G : Cxt) : va_G := (G.1, G.2.1)
def tysG (G : Cxt) : List (ClassId × FieldType) := [(G.2.2.1 0, .int), (G.2.2.1 1, .long), (G.2.2.1 2, .byte), (G.2.2.1 3, .boolean), (G.2.2.1 4, .object RX7), (G.2.2.1 5, .object RX9)]
def upd1 (f : Int → Int) (j z : Int) : Int → Int := fun i => if i = j then z else f i
def updm (μ : Mem) (o j z : Int) : Mem := fun q => if q = o then upd1 (μ o) j z else μ q
def seto (μ : Mem) (o : Int) (f : Int → Int) : Mem := fun q => if q = o then f else μ q
/-- the static arrays: name, descriptor, kind, contents -/
def SL (k : Nat) : String × String × Nat × List Int := match k with
  | 0 => ("FACTORIAL", "[I", 0, [1, 1, 2, 6, 24])
  | 1 => ("PLACES", "[C", 6, [112, 108, 97, 99, 101, 115])
  | 2 => ("LANE", "[C", 6, [108, 97, 110, 101])
  | 3 => ("CHANCE", "[C", 6, [99, 104, 97, 110, 99, 101])
  | 4 => ("DOG", "[C", 6, [100, 111, 103])
  | 5 => ("DIG", "[C", 6, [100, 105, 103])
  | 6 => ("PRIZE", "[C", 6, [112, 114, 105, 122, 101])
  | _ => ("MOVE", "[C", 6, [109, 111, 118, 101])
def SV (k : Nat) (j : Int) : Int := (SL k).2.2.2.getD j.toNat 0
def SN (k : Nat) : Nat := (SL k).2.2.2.length
def ST (k : Nat) : FieldType := match (SL k).2.2.1 with
  | 0 => .int
  | _ => .char
/-- the law's script: its length, its numbers (behind the static arrays' addresses: 8 its address, 9 its length, 10 on its numbers, told from -2^31 on) -/
def scL (G : Cxt) : Nat := G.2.2.2.2 9
def scV (G : Cxt) (j : Int) : Int := (G.2.2.2.2 (10 + j.toNat) : Int) - 2147483648
def hX (G : Cxt) (U : State) (H : Heap) : Prop := va_T .int (G.2.2.2.2 8) (scL G) (fun j => .int (Int32.ofInt (scV G j))) (AG G) U H
def hS (G : Cxt) (U : State) (H : Heap) : Prop := (∀ k, k < 8 → va_Z RX10 (SL k).1 (SL k).2.1 (.ref (G.2.2.2.2 k)) (AG G) U H ∧ va_T (ST k) (G.2.2.2.2 k) (SN k) (fun j => .int (Int32.ofInt (SV k j))) (AG G) U H) ∧ hX G U H
def isNest : Cond → Bool
  | .fieldLinkNest .. => true
  | .methodLinkNest .. => true
  | _ => false
def isOver : Cond → Bool
  | .arrayOver _ => true
  | _ => false
def hT (G : Cxt) (U : State) : Prop := va_K (DG G) vwCl (tysG G) U ∧ (∀ w ∈ lw_tbl, isNest w = true → va_Nw w U) ∧ (va_AO RX7 U ∧ va_AO RX9 U)
def hH (G : Cxt) (n : Nat) (μ : Mem) (H : Heap) : Prop := va_P (DG G) vwCl (wrld G n μ) H ∧ va_D (AG G) (wrld G n μ) ∧ H.size = b0 G + n
def lw_ok : List Cond := lw_tbl.filter goodWord
abbrev Mt : Type := MethodName × ByteArray × Nat × Option FieldType
def ws_ (y : Mt) : List Cond := .code y.1 y.2.1 y.2.2.1 y.2.2.2 :: lw_ok
abbrev rmk (fr lo mc ms : Nat) : Room := { frames := fr, cells := mc, slots := ms, locals := lo }
def hAll (G : Cxt) (n : Nat) (μ : Mem) (U : State) : Prop := hH G n μ U.heap ∧ hT G U ∧ hS G U U.heap
def QcOf (G : Cxt) (n : Nat) (Q : Mem → Option AV → Prop) : Array Value → State → Outcome → State → Prop := fun _ st oc t => ∃ (μ : Mem) (r : Option AV), oc = .returned (r.map (cv G)) ∧ Q μ r ∧ hH G n μ t.heap ∧ va_F (AG G) st t
/-- what a method is said to do: its cells made so far, its arguments, the memory, what holds behind it -/
abbrev Sp : Type := Nat → List AV → Mem → (Mem → Option AV → Prop) → Prop
/-- a method's contract -/
def Ct (y : Mt) (fr lo mc ms : Nat) (S : Sp) : Prop := ∀ (G : Cxt) (n : Nat) (as : List AV) (μ : Mem) (Q : Mem → Option AV → Prop), S n as μ Q → ∀ l : Launch, Met l y.1 (ws_ y) (rmk fr lo mc ms) (va_Pc (as.map (cv G)) (hAll G n μ)) (QcOf G (n + mc) Q) mc ms (AG G)
abbrev cvl (G : Cxt) (lc : List (Nat × AV)) : List (Nat × Value) := lc.map fun q => (q.1, cv G q.2)
def Cx (y : Mt) (own : String) (G : Cxt) (n0 : Nat) (p : Program) (s : State) (m : MethodId) (args : Array Value) (meth : Method) (c : Code) : Prop :=
  p.tables.exec = Jvm.exec ∧ c.code = y.2.1 ∧ c.maxLocals = y.2.2.1 ∧ s.vm.findClass own = some m.cls ∧ (∀ w ∈ ws_ y, w.before args s = true) ∧ meth.sig.returnType = y.2.2.2 ∧ meth.locks = false ∧ meth.name = y.1.name ∧ hT G s ∧ hS G s s.heap ∧ s.heap.size = b0 G + n0
/-- from here the method returns, and Q holds of the memory and of the answer -/
def Vc (y : Mt) (own : String) (fr lo mc ms : Nat) (G : Cxt) (n0 : Nat) (Q : Mem → Option AV → Prop) (pc : Nat) (lc : List (Nat × AV)) (st : List AV) (μ : Mem) (n sl : Nat) : Prop :=
  ∀ (p : Program) (l : Launch) (e : Env) (s : State) (m : MethodId) (args : Array Value) (below : List Frame) (meth : Method) (c : Code), Cx y own G n0 p s m args meth c →
    ∀ (H : Heap) (locs : List Loc) (ls : Array Slot), hH G n μ H → va_S (AG G) s.heap H locs → lv_has ls y.2.2.1 (cvl G lc) → n0 ≤ n →
      W p l e (rmk fr lo mc ms) s m args below meth c H locs (n - n0) sl (MQ below (QcOf G (n0 + mc) Q) args s mc ms (AG G)) (F0 m pc ls (st.map (cv G)))
theorem wrld_at {G : Cxt} {n : Nat} {μ : Mem} {o : Nat} (h : o < n) : (wrld G n μ)[o]? = some (b0 G + o, cont G o (μ o)) := by
  simp [wrld, h]
theorem wrld_set {G : Cxt} {n : Nat} {μ : Mem} {o : Nat} {f : Int → Int} : (wrld G n μ).set o (b0 G + o, cont G o f) = wrld G n (seto μ o f) := by
  apply List.ext_getElem?
  intro k
  by_cases hk : o = k
  · subst hk
    by_cases hn : o < n
    · rw [List.getElem?_set_self (by simp [wrld, hn]), wrld_at hn]
      simp [seto]
    · rw [List.getElem?_eq_none (by simp [wrld]; omega), List.getElem?_eq_none (by simp [wrld]; omega)]
  · rw [List.getElem?_set_ne hk]
    by_cases hn : k < n
    · rw [wrld_at hn, wrld_at hn]
      have hk2 : ¬ (k : Int) = (o : Int) := by omega
      simp [seto, hk2]
    · rw [List.getElem?_eq_none (by simp [wrld]; omega), List.getElem?_eq_none (by simp [wrld]; omega)]
theorem wrld_push {G : Cxt} {n : Nat} {μ : Mem} {f : Int → Int} : wrld G n μ ++ [(b0 G + n, cont G n f)] = wrld G (n + 1) (seto μ n f) := by
  apply List.ext_getElem?
  intro k
  by_cases hk : k < n
  · rw [List.getElem?_append_left (by simp [wrld, hk]), wrld_at hk, wrld_at (by omega)]
    have hk2 : ¬ (k : Int) = (n : Int) := by omega
    simp [seto, hk2]
  · by_cases he : k = n
    · subst he
      rw [List.getElem?_append_right (by simp [wrld]), wrld_at (by omega)]
      simp [wrld, seto]
    · rw [List.getElem?_eq_none (by simp [wrld]; omega), List.getElem?_eq_none (by simp [wrld]; omega)]
theorem seto_upd {μ : Mem} {o j z : Int} : seto μ o (upd1 (μ o) j z) = updm μ o j z := rfl
theorem hH.addr {G : Cxt} {n : Nat} {μ : Mem} {H : Heap} {z : Int} (h : 0 ≤ z) : cv G (2, z) = .ref (b0 G + z.toNat) := by
  have h2 : ¬ z < 0 := by omega
  simp [cv, rfo, h2, va_rf]
theorem cv_ref {G : Cxt} {z : Int} (h : 0 ≤ z) : cv G (2, z) = .ref (b0 G + z.toNat) := by
  have h2 : ¬ z < 0 := by omega
  simp [cv, rfo, h2, va_rf]
theorem cv_null {G : Cxt} {z : Int} (h : z < 0) : cv G (2, z) = .null := by
  simp [cv, rfo, h, va_rf]
