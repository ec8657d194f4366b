/-! the objects' own arrays and objects lie at fixed distances behind them, once they are made -/
def NF (ci : Nat) : Nat := match ci with
  | 0 => 19 | 1 => 6 | 2 => 11 | 3 => 10 | 4 => 3 | 5 => 6 | 6 => 12 | 7 => 18 | 8 => 4 | 9 => 11 | 10 => 14 | 11 => 52 | _ => 0
def OFF (ci f : Nat) : Int := match ci with
  | 0 => ([0, 0, 1, 2, 3, 0, 4, 5, 6, 7, 8, 9, 10] : List Int).getD f 0
  | 1 => ([1, 2, 3, 4, 5] : List Int).getD f 0
  | 2 => ([1, 2, 3, 4, 5, 6, 7, 8] : List Int).getD f 0
  | 3 => ([1] : List Int).getD f 0
  | 4 => ([1, 2] : List Int).getD f 0
  | 5 => ([1, 2, 3] : List Int).getD f 0
  | 6 => ([1, 2, 3, 4, 5, 6] : List Int).getD f 0
  | 7 => ([0, 0, 0, 0, 0, 0, 0, 1, 2, 3, 4, 5, 0, 6, 7, 8, 0, 9] : List Int).getD f 0
  | 8 => ([1, 2] : List Int).getD f 0
  | 9 => ([1, 2] : List Int).getD f 0
  | 10 => ([1, 34, 134, 135, 145, 149, 156, 167, 178, 180, 186, 195, 198] : List Int).getD f 0
  | _ => ([1, 2, 0, 0, 0, 0, 0, 0, 0, 0, 3, 0, 0, 0, 0, 4, 5, 6, 7, 0, 8, 9, 0, 10, 11, 12, 13, 0, 0, 14, 15, 16, 17, 18, 0, 19, 20, 21, 22, 23, 24, 25, 0, 0, 26, 27, 28, 0, 0, 29, 30, 0] : List Int).getD f 0
/-- an object of class ci at z -/
def isC (z : Int) (ci : Nat) : Prop := (0 ≤ z ∧ z < 232) ∧ LAY z.toNat = (ci + 10, NF ci)
/-- an array of kind kd at z with a place j -/
def inA (z : Int) (kd : Nat) (j : Int) : Prop := (0 ≤ z ∧ z < 232) ∧ (LAY z.toNat).1 = kd ∧ 0 ≤ j ∧ j < ((LAY z.toNat).2 : Int)
theorem isC.at {z : Int} {ci f : Nat} (h : isC z ci) (hf : f < NF ci) : atO 232 z ci f := by
  obtain ⟨h1, h2⟩ := h
  exact ⟨h1, by rw [h2], by rw [h2]; exact hf⟩
theorem inA.at {z j : Int} {kd : Nat} (h : inA z kd j) : atA 232 z kd j := h
def Lk (μ : Mem) : Prop := (∀ (z : Int) (ci f : Nat), isC z ci → f < NF ci → tgOf (TYS ci f) = 2 → μ z f = z + OFF ci f) ∧ (∀ z j : Int, inA z 4 j → μ z j = z + 1 + 10 * j) ∧ (∀ z j : Int, inA z 5 j → μ z j = z + 1 + 33 * j)
theorem toNat_inj' {a b : Int} (ha : 0 ≤ a) (hb : 0 ≤ b) (h : a.toNat = b.toNat) : a = b := by omega
theorem Lk.put {μ : Mem} {z w : Int} {ci f : Nat} (h : Lk μ) (hz : isC z ci) (ht : tgOf (TYS ci f) ≠ 2) : Lk (updm μ z f w) := by
  refine ⟨fun z' ci' f' h1 h2 h3 => ?_, fun z' j h1 => ?_, fun z' j h1 => ?_⟩
  · by_cases hz' : z' = z
    · subst hz'
      have e : (ci' + 10, NF ci') = (ci + 10, NF ci) := h1.2.symm.trans hz.2
      have e2 : ci' = ci := by have := congrArg Prod.fst e; simp at this; exact this
      subst e2
      have hf : ¬ (f' : Int) = (f : Int) := by
        intro q
        have : f' = f := by omega
        subst this
        exact ht h3
      simp only [updm, upd1, if_pos, hf, if_false]
      exact h.1 z' ci' f' h1 h2 h3
    · simp only [updm, if_neg hz']
      exact h.1 z' ci' f' h1 h2 h3
  · have hz' : ¬ z' = z := by
      intro q
      subst q
      have := h1.2.1
      rw [hz.2] at this
      simp at this
    simp only [updm, if_neg hz']
    exact h.2.1 z' j h1
  · have hz' : ¬ z' = z := by
      intro q
      subst q
      have := h1.2.1
      rw [hz.2] at this
      simp at this
    simp only [updm, if_neg hz']
    exact h.2.2 z' j h1
theorem Lk.set_ {μ : Mem} {z : Int} {kd : Nat} {f : Int → Int} (h : Lk μ) (hz : (LAY z.toNat).1 = kd) (hk : kd ≤ 3) : Lk (seto μ z f) := by
  refine ⟨fun z' ci' f' h1 h2 h3 => ?_, fun z' j h1 => ?_, fun z' j h1 => ?_⟩
  · have hz' : ¬ z' = z := by
      intro q
      subst q
      rw [h1.2] at hz
      simp only at hz
      omega
    simp only [seto, if_neg hz']
    exact h.1 z' ci' f' h1 h2 h3
  · have hz' : ¬ z' = z := by
      intro q
      subst q
      have := h1.2.1
      omega
    simp only [seto, if_neg hz']
    exact h.2.1 z' j h1
  · have hz' : ¬ z' = z := by
      intro q
      subst q
      have := h1.2.1
      omega
    simp only [seto, if_neg hz']
    exact h.2.2 z' j h1
theorem Lk.sta {μ : Mem} {z j w : Int} {kd : Nat} (h : Lk μ) (hz : inA z kd j) (hk : kd ≤ 3) : Lk (updm μ z j w) := h.set_ (f := upd1 (μ z) j w) hz.2.1 hk
/-- from here, in a method of a finished world -/
def Vn (y : Mt) (own : String) (fr lo : Nat) (G : Cxt) (Q : Mem → Option AV → Prop) (pc : Nat) (lc : List (Nat × AV)) (st : List AV) (μ : Mem) : Prop := Lk μ → Vc y own fr lo 0 0 G 232 Q pc lc st μ 232 0
abbrev S0t : Type := List AV → Mem → (Mem → Option AV → Prop) → Prop
def nrmS (S : S0t) : Sp := fun n as μ Q => n = 232 ∧ Lk μ ∧ S as μ (fun μ' r => Lk μ' → Q μ' r)
/-- a call: 0 of an object's method, 1 of a static one, 2 arraycopy; how many arguments; the class (of arraycopy: the kind); what it does -/
abbrev CallE : Type := Nat × Nat × Nat × S0t
/-- code; fields read; fields written; constants; long constants; static arrays; calls -/
abbrev Inf : Type := List (Nat × Instr) × List (Nat × Nat × Nat × Int) × List (Nat × Nat × Nat × Int) × List (Nat × Int) × List (Nat × Int) × List (Nat × Nat) × List (Nat × CallE)
def kD (pc : Nat) (off : Int) : Nat := ((pc : Int) + off).toNat
def tsw (pc : Nat) (a : Int) : Int → List Int → (Nat → Prop) → Prop
  | _, [], _ => True
  | lo, o :: t, K => (a = lo → K (kD pc o)) ∧ tsw pc a (lo + 1) t K
def retP (y : Mt) (z : Int) (Rt : Prop) : Prop := match y.2.2.2 with
  | some .int => Rt
  | some .boolean => (0 ≤ z ∧ z ≤ 1) ∧ Rt
  | _ => False
def stp (I : Inf) (y : Mt) (i : Instr) (pc : Nat) (lc : List (Nat × AV)) (st : List AV) (μ : Mem) (K : Nat → List (Nat × AV) → List AV → Mem → Prop) (Rt : Mem → Option AV → Prop) : Prop :=
  match i with
  | .iconst c => K (pc + 1) lc (kI c :: st) μ
  | .bipush c => K (pc + 2) lc (kI c :: st) μ
  | .sipush c => K (pc + 3) lc (kI c :: st) μ
  | .lconst d => K (pc + 1) lc (kL d.val :: st) μ
  | .iload_n i => match lc.lookup i.val with
    | some (0, z) => K (pc + 1) lc (kI z :: st) μ
    | _ => False
  | .iload i => match lc.lookup i with
    | some (0, z) => K (pc + 2) lc (kI z :: st) μ
    | _ => False
  | .lload_n i => match lc.lookup i.val with
    | some (1, z) => K (pc + 1) lc (kL z :: st) μ
    | _ => False
  | .lload i => match lc.lookup i with
    | some (1, z) => K (pc + 2) lc (kL z :: st) μ
    | _ => False
  | .aload_n i => match lc.lookup i.val with
    | some (t + 2, z) => K (pc + 1) lc ((t + 2, z) :: st) μ
    | _ => False
  | .aload i => match lc.lookup i with
    | some (t + 2, z) => K (pc + 2) lc ((t + 2, z) :: st) μ
    | _ => False
  | .istore_n i => match st with
    | (0, z) :: st => K (pc + 1) (sto1 lc i.val (kI z)) st μ
    | _ => False
  | .istore i => match st with
    | (0, z) :: st => K (pc + 2) (sto1 lc i (kI z)) st μ
    | _ => False
  | .lstore_n i => match st with
    | (1, z) :: st => K (pc + 1) (sto2 lc i.val (kL z)) st μ
    | _ => False
  | .lstore i => match st with
    | (1, z) :: st => K (pc + 2) (sto2 lc i (kL z)) st μ
    | _ => False
  | .astore_n i => match st with
    | (t + 2, z) :: st => K (pc + 1) (sto1 lc i.val (t + 2, z)) st μ
    | _ => False
  | .astore i => match st with
    | (t + 2, z) :: st => K (pc + 2) (sto1 lc i (t + 2, z)) st μ
    | _ => False
  | .iinc i c => match lc.lookup i with
    | some (0, z) => K (pc + 3) (sto1 lc i (kI (z + c))) st μ
    | _ => False
  | .iadd => match st with
    | (0, b) :: (0, a) :: st => K (pc + 1) lc (kI (a + b) :: st) μ
    | _ => False
  | .isub => match st with
    | (0, b) :: (0, a) :: st => K (pc + 1) lc (kI (a - b) :: st) μ
    | _ => False
  | .imul => match st with
    | (0, b) :: (0, a) :: st => K (pc + 1) lc (kI (a * b) :: st) μ
    | _ => False
  | .iand => match st with
    | (0, b) :: (0, a) :: st => K (pc + 1) lc (kI (band a b) :: st) μ
    | _ => False
  | .ior => match st with
    | (0, b) :: (0, a) :: st => K (pc + 1) lc (kI (bor a b) :: st) μ
    | _ => False
  | .ixor => match st with
    | (0, b) :: (0, a) :: st => K (pc + 1) lc (kI (bxor a b) :: st) μ
    | _ => False
  | .ishl => match st with
    | (0, b) :: (0, a) :: st => K (pc + 1) lc (kI (bshl a b) :: st) μ
    | _ => False
  | .ishr => match st with
    | (0, b) :: (0, a) :: st => K (pc + 1) lc (kI (bshr a b) :: st) μ
    | _ => False
  | .iushr => match st with
    | (0, b) :: (0, a) :: st => K (pc + 1) lc (kI (bushr a b) :: st) μ
    | _ => False
  | .idiv => match st with
    | (0, b) :: (0, a) :: st => (r32 a ∧ r32 b ∧ b ≠ 0) ∧ K (pc + 1) lc (kI (a.tdiv b) :: st) μ
    | _ => False
  | .irem => match st with
    | (0, b) :: (0, a) :: st => (r32 a ∧ r32 b ∧ b ≠ 0) ∧ K (pc + 1) lc (kI (a.tmod b) :: st) μ
    | _ => False
  | .ladd => match st with
    | (1, b) :: (1, a) :: st => K (pc + 1) lc (kL (a + b) :: st) μ
    | _ => False
  | .lsub => match st with
    | (1, b) :: (1, a) :: st => K (pc + 1) lc (kL (a - b) :: st) μ
    | _ => False
  | .lmul => match st with
    | (1, b) :: (1, a) :: st => K (pc + 1) lc (kL (a * b) :: st) μ
    | _ => False
  | .lneg => match st with
    | (1, a) :: st => K (pc + 1) lc (kL (-a) :: st) μ
    | _ => False
  | .ldiv => match st with
    | (1, b) :: (1, a) :: st => (r64 a ∧ r64 b ∧ b ≠ 0) ∧ K (pc + 1) lc (kL (a.tdiv b) :: st) μ
    | _ => False
  | .lrem => match st with
    | (1, b) :: (1, a) :: st => (r64 a ∧ r64 b ∧ b ≠ 0) ∧ K (pc + 1) lc (kL (a.tmod b) :: st) μ
    | _ => False
  | .i2l => match st with
    | (0, a) :: st => r32 a ∧ K (pc + 1) lc (kL a :: st) μ
    | _ => False
  | .i2b => match st with
    | (0, a) :: st => K (pc + 1) lc (kI (a.bmod 256) :: st) μ
    | _ => False
  | .lcmp => match st with
    | (1, b) :: (1, a) :: st => (r64 a ∧ r64 b) ∧ K (pc + 1) lc (kI (lcm3 a b) :: st) μ
    | _ => False
  | .dup => match st with
    | (0, a) :: st => K (pc + 1) lc (kI a :: kI a :: st) μ
    | (2, a) :: st => K (pc + 1) lc (kR a :: kR a :: st) μ
    | _ => False
  | .dup2 => match st with
    | (0, a) :: (0, b) :: st => K (pc + 1) lc (kI a :: kI b :: kI a :: kI b :: st) μ
    | (0, a) :: (2, b) :: st => K (pc + 1) lc (kI a :: kR b :: kI a :: kR b :: st) μ
    | (1, a) :: st => K (pc + 1) lc (kL a :: kL a :: st) μ
    | _ => False
  | .ifCond c off => match st with
    | (0, a) :: st => r32 a ∧ (cnd c a 0 → K (kD pc off) lc st μ) ∧ (¬ cnd c a 0 → K (pc + 3) lc st μ)
    | _ => False
  | .if_icmp c off => match st with
    | (0, b) :: (0, a) :: st => (r32 a ∧ r32 b) ∧ (cnd c a b → K (kD pc off) lc st μ) ∧ (¬ cnd c a b → K (pc + 3) lc st μ)
    | _ => False
  | .ifnull off => match st with
    | (2, z) :: st => (z < 0 → K (kD pc off) lc st μ) ∧ (¬ z < 0 → K (pc + 3) lc st μ)
    | _ => False
  | .ifnonnull off => match st with
    | (2, z) :: st => (¬ z < 0 → K (kD pc off) lc st μ) ∧ (z < 0 → K (pc + 3) lc st μ)
    | _ => False
  | .goto off => K (kD pc off) lc st μ
  | .tableswitch d lo hi offs => match st with
    | (0, a) :: st => r32 a ∧ (a < lo ∨ hi < a → K (kD pc d) lc st μ) ∧ tsw pc a lo offs.toList (fun pc => K pc lc st μ)
    | _ => False
  | .aconst_null => K (pc + 1) lc (kR (-1) :: st) μ
  | .getfield idx => match st, I.2.1.lookup idx with
    | (2, z) :: st, some (ci, f, fz) => isC z ci ∧ (match tgOf (TYS ci f) with
      | 2 => K (pc + 3) lc (kR (z + OFF ci f) :: st) μ
      | t => K (pc + 3) lc ((t, μ z fz) :: st) μ)
    | _, _ => False
  | .putfield idx => match st, I.2.2.1.lookup idx with
    | (t, w) :: (2, z) :: st, some (ci, f, fz) => isC z ci ∧ t = tgOf (TYS ci f) ∧ fitZ (TYS ci f) w ∧ K (pc + 3) lc st (updm μ z fz w)
    | _, _ => False
  | .getstatic idx => match I.2.2.2.2.2.1.lookup idx with
    | some k => K (pc + 3) lc (kS k :: st) μ
    | _ => False
  | .ldc idx => match I.2.2.2.1.lookup idx with
    | some z => K (pc + 2) lc (kI z :: st) μ
    | _ => False
  | .ldc_w idx => match I.2.2.2.1.lookup idx with
    | some z => K (pc + 3) lc (kI z :: st) μ
    | _ => False
  | .ldc2_w idx => match I.2.2.2.2.1.lookup idx with
    | some z => K (pc + 3) lc (kL z :: st) μ
    | _ => False
  | .iaload => match st with
    | (0, j) :: (2, z) :: st => inA z 0 j ∧ K (pc + 1) lc (kI (μ z j) :: st) μ
    | (0, j) :: (3, z) :: st => atS z 0 j ∧ K (pc + 1) lc (kI (SV z.toNat j) :: st) μ
    | _ => False
  | .caload => match st with
    | (0, j) :: (3, z) :: st => atS z 6 j ∧ K (pc + 1) lc (kI (SV z.toNat j) :: st) μ
    | _ => False
  | .laload => match st with
    | (0, j) :: (2, z) :: st => inA z 1 j ∧ K (pc + 1) lc (kL (μ z j) :: st) μ
    | _ => False
  | .baload => match st with
    | (0, j) :: (2, z) :: st => (inA z 2 j ∨ inA z 3 j) ∧ K (pc + 1) lc (kI (μ z j) :: st) μ
    | _ => False
  | .aaload => match st with
    | (0, j) :: (2, z) :: st => (inA z 4 j ∧ K (pc + 1) lc (kR (z + 1 + 10 * j) :: st) μ) ∨ (inA z 5 j ∧ K (pc + 1) lc (kR (z + 1 + 33 * j) :: st) μ)
    | _ => False
  | .iastore => match st with
    | (0, w) :: (0, j) :: (2, z) :: st => inA z 0 j ∧ K (pc + 1) lc st (updm μ z j w)
    | _ => False
  | .lastore => match st with
    | (1, w) :: (0, j) :: (2, z) :: st => inA z 1 j ∧ K (pc + 1) lc st (updm μ z j w)
    | _ => False
  | .bastore => match st with
    | (0, w) :: (0, j) :: (2, z) :: st => ((inA z 2 j ∧ -128 ≤ w ∧ w ≤ 127) ∨ (inA z 3 j ∧ 0 ≤ w ∧ w ≤ 1)) ∧ K (pc + 1) lc st (updm μ z j w)
    | _ => False
  | .arraylength => match st with
    | (2, z) :: st => ((0 ≤ z ∧ z < 232) ∧ (LAY z.toNat).1 ≤ 3) ∧ K (pc + 1) lc (kI (LAY z.toNat).2 :: st) μ
    | (3, z) :: st => (0 ≤ z ∧ z < 8) ∧ K (pc + 1) lc (kI (SN z.toNat) :: st) μ
    | _ => False
  | .invokevirtual idx => match I.2.2.2.2.2.2.lookup idx with
    | some (0, na, ci, S) => match st.drop na with
      | (2, z) :: rest => isC z ci ∧ (match Nat.ble (rest.map fun v => if v.1 = 1 then 2 else 1).sum 8, Nat.ble na st.length with
        | true, true => S (kR z :: (st.take na).reverse) μ (fun μ' r => K (pc + 3) lc (r.toList ++ rest) μ')
        | _, _ => False)
      | _ => False
    | _ => False
  | .invokestatic idx => match I.2.2.2.2.2.2.lookup idx with
    | some (1, na, _, S) => match Nat.ble ((st.drop na).map fun v => if v.1 = 1 then 2 else 1).sum 8, Nat.ble na st.length with
      | true, true => S (st.take na).reverse μ (fun μ' r => K (pc + 3) lc (r.toList ++ st.drop na) μ')
      | _, _ => False
    | some (2, _, kd, _) => match st with
      | (0, m) :: (0, q) :: (2, d) :: (0, q') :: (2, a) :: [] => (q = 0 ∧ q' = 0) ∧ ((0 ≤ a ∧ a < 232) ∧ (LAY a.toNat).1 = kd) ∧ ((0 ≤ d ∧ d < 232) ∧ (LAY d.toNat).1 = kd) ∧ (0 ≤ m ∧ m ≤ ((LAY a.toNat).2 : Int) ∧ m ≤ ((LAY d.toNat).2 : Int)) ∧ (kd = 2 → ∀ j : Int, 0 ≤ j → j < m → -128 ≤ μ a j ∧ μ a j ≤ 127) ∧ K (pc + 3) lc [] (seto μ d (cpy0 (μ a) (μ d) m))
      | _ => False
    | _ => False
  | .ireturn => match st with
    | [(0, z)] => retP y z (Rt μ (some (kI z)))
    | _ => False
  | .lreturn => match st with
    | [(1, z)] => Rt μ (some (kL z))
    | _ => False
  | .areturn => match st with
    | [(2, z)] => Rt μ (some (kR z))
    | _ => False
  | .return_ => match st with
    | [] => Rt μ none
    | _ => False
  | _ => False
