/-- an array of kind kd with N places at z -/
def isArr (z : Int) (kd N : Nat) : Prop := (0 ≤ z ∧ z < 232) ∧ LAY z.toNat = (kd, N)
theorem isArr.in {z j : Int} {kd N : Nat} (h : isArr z kd N) (h0 : 0 ≤ j) (h1 : j < (N : Int)) : inA z kd j := ⟨h.1, by rw [h.2], h0, by rw [h.2]; exact h1⟩
theorem isArr.k1 {z : Int} {kd N : Nat} (h : isArr z kd N) : (LAY z.toNat).1 = kd := by rw [h.2]
theorem cpl {a d m : Int} {kd N0 N1 N : Nat} (ha : isArr a kd N0) (hd : isArr d kd N1) (hm : 0 ≤ m ∧ m ≤ (N : Int)) (h0 : N ≤ N0) (h1 : N ≤ N1) : 0 ≤ m ∧ m ≤ ((LAY a.toNat).2 : Int) ∧ m ≤ ((LAY d.toNat).2 : Int) := by
  rw [ha.2, hd.2]
  show 0 ≤ m ∧ m ≤ (N0 : Int) ∧ m ≤ (N1 : Int)
  omega
def S_copy : S0t := fun _ _ _ => True
theorem AC1 : Cond.native arraycopyName ∈ lw_ok := in_ok (i := 702) (by decide +kernel) rfl
theorem AC2 : Cond.static arraycopyName ∈ lw_ok := in_ok (i := 701) (by decide +kernel) rfl
theorem AC3 : Cond.initialized "java/lang/System" ∈ lw_ok := in_ok (i := 15) (by decide +kernel) rfl
theorem lcm3_r (a b : Int) : r32 (lcm3 a b) := by
  unfold lcm3 r32
  split
  · omega
  · split <;> omega
theorem lcm_lt {a b : Int} : lcm3 a b < 0 ↔ a < b := by
  unfold lcm3
  split
  · omega
  · split <;> omega
theorem lcm_eq {a b : Int} : lcm3 a b = 0 ↔ a = b := by
  unfold lcm3
  split
  · omega
  · split <;> omega
theorem lcm_ne {a b : Int} : ¬ lcm3 a b = 0 ↔ ¬ a = b := not_congr lcm_eq
theorem lcm_ge {a b : Int} : 0 ≤ lcm3 a b ↔ b ≤ a := by
  unfold lcm3
  split
  · omega
  · split <;> omega
theorem lcm_gt {a b : Int} : 0 < lcm3 a b ↔ b < a := by
  unfold lcm3
  split
  · omega
  · split <;> omega
theorem lcm_le {a b : Int} : lcm3 a b ≤ 0 ↔ a ≤ b := by
  unfold lcm3
  split
  · omega
  · split <;> omega
def isW (w : Int) : Prop := w ∈ ([1, 35, 68, 101] : List Int)
def isG (g : Int) : Prop := g ∈ ([156, 167] : List Int)
theorem isW_C {t : Int} (h : isW t) : isC t 9 := by
  have key : ∀ t ∈ ([1, 35, 68, 101] : List Int), (0 ≤ t ∧ t < 232) ∧ LAY t.toNat = (19, 11) := by decide +kernel
  exact key t h
theorem isG_C {t : Int} (h : isG t) : isC t 0 := by
  have key : ∀ t ∈ ([156, 167] : List Int), (0 ≤ t ∧ t < 232) ∧ LAY t.toNat = (10, 19) := by decide +kernel
  exact key t h
theorem tw_town {z j : Int} (h : isArr z 4 3) (h0 : 0 ≤ j) (h1 : j < 3) : isT (z + 1 + 10 * j) := by
  have key : ∀ n, n < 232 → LAY n = (4, 3) → ∀ k : Nat, k < 3 → ((n : Int) + 1 + 10 * (k : Int)) ∈ towns := by decide +kernel
  have := key z.toNat (by have := h.1; omega) h.2 j.toNat (by omega)
  have e1 : ((z.toNat : Nat) : Int) = z := Int.toNat_of_nonneg h.1.1
  have e2 : ((j.toNat : Nat) : Int) = j := Int.toNat_of_nonneg h0
  rw [e1, e2] at this
  exact this
theorem I_world {z j : Int} (h : isArr z 5 3) (h0 : 0 ≤ j) (h1 : j < 3) : isW (z + 1 + 33 * j) := by
  have key : ∀ n, n < 232 → LAY n = (5, 3) → ∀ k : Nat, k < 3 → ((n : Int) + 1 + 33 * (k : Int)) ∈ ([1, 35, 68, 101] : List Int) := by decide +kernel
  have := key z.toNat (by have := h.1; omega) h.2 j.toNat (by omega)
  have e1 : ((z.toNat : Nat) : Int) = z := Int.toNat_of_nonneg h.1.1
  have e2 : ((j.toNat : Nat) : Int) = j := Int.toNat_of_nonneg h0
  rw [e1, e2] at this
  exact this
theorem T_minutes {t : Int} (h : isT t) : isArr (t + 1) 0 64 := by
  have key : ∀ t ∈ towns, (0 ≤ t + 1 ∧ t + 1 < 232) ∧ LAY (t + 1).toNat = (0, 64) := by decide +kernel
  exact key t h
theorem T_ways {t : Int} (h : isT t) : isArr (t + 2) 0 64 := by
  have key : ∀ t ∈ towns, (0 ≤ t + 2 ∧ t + 2 < 232) ∧ LAY (t + 2).toNat = (0, 64) := by decide +kernel
  exact key t h
theorem T_chance {t : Int} (h : isT t) : isArr (t + 3) 0 8 := by
  have key : ∀ t ∈ towns, (0 ≤ t + 3 ∧ t + 3 < 232) ∧ LAY (t + 3).toNat = (0, 8) := by decide +kernel
  exact key t h
theorem T_dog {t : Int} (h : isT t) : isArr (t + 4) 0 8 := by
  have key : ∀ t ∈ towns, (0 ≤ t + 4 ∧ t + 4 < 232) ∧ LAY (t + 4).toNat = (0, 8) := by decide +kernel
  exact key t h
theorem T_dig {t : Int} (h : isT t) : isArr (t + 5) 0 8 := by
  have key : ∀ t ∈ towns, (0 ≤ t + 5 ∧ t + 5 < 232) ∧ LAY (t + 5).toNat = (0, 8) := by decide +kernel
  exact key t h
theorem T_stops {t : Int} (h : isT t) : isArr (t + 6) 0 128 := by
  have key : ∀ t ∈ towns, (0 ≤ t + 6 ∧ t + 6 < 232) ∧ LAY (t + 6).toNat = (0, 128) := by decide +kernel
  exact key t h
theorem T_stopCount {t : Int} (h : isT t) : isArr (t + 7) 0 8 := by
  have key : ∀ t ∈ towns, (0 ≤ t + 7 ∧ t + 7 < 232) ∧ LAY (t + 7).toNat = (0, 8) := by decide +kernel
  exact key t h
theorem T_weight {t : Int} (h : isT t) : isArr (t + 8) 0 8 := by
  have key : ∀ t ∈ towns, (0 ≤ t + 8 ∧ t + 8 < 232) ∧ LAY (t + 8).toNat = (0, 8) := by decide +kernel
  exact key t h
theorem T_diary {t : Int} (h : isT t) : isArr (t + 9) 0 7 := by
  have key : ∀ t ∈ towns, (0 ≤ t + 9 ∧ t + 9 < 232) ∧ LAY (t + 9).toNat = (0, 7) := by decide +kernel
  exact key t h
theorem W_tape {t : Int} (h : isW t) : isArr (t + 1) 2 500 := by
  have key : ∀ t ∈ ([1, 35, 68, 101] : List Int), (0 ≤ t + 1 ∧ t + 1 < 232) ∧ LAY (t + 1).toNat = (2, 500) := by decide +kernel
  exact key t h
theorem W_towns {t : Int} (h : isW t) : isArr (t + 2) 4 3 := by
  have key : ∀ t ∈ ([1, 35, 68, 101] : List Int), (0 ≤ t + 2 ∧ t + 2 < 232) ∧ LAY (t + 2).toNat = (4, 3) := by decide +kernel
  exact key t h
theorem Gm_cellar {t : Int} (h : isG t) : isArr (t + 1) 0 4 := by
  have key : ∀ t ∈ ([156, 167] : List Int), (0 ≤ t + 1 ∧ t + 1 < 232) ∧ LAY (t + 1).toNat = (0, 4) := by decide +kernel
  exact key t h
theorem Gm_found {t : Int} (h : isG t) : isArr (t + 2) 0 96 := by
  have key : ∀ t ∈ ([156, 167] : List Int), (0 ≤ t + 2 ∧ t + 2 < 232) ∧ LAY (t + 2).toNat = (0, 96) := by decide +kernel
  exact key t h
theorem Gm_settled {t : Int} (h : isG t) : isArr (t + 3) 0 96 := by
  have key : ∀ t ∈ ([156, 167] : List Int), (0 ≤ t + 3 ∧ t + 3 < 232) ∧ LAY (t + 3).toNat = (0, 96) := by decide +kernel
  exact key t h
theorem Gm_cellPick {t : Int} (h : isG t) : isArr (t + 4) 0 4 := by
  have key : ∀ t ∈ ([156, 167] : List Int), (0 ≤ t + 4 ∧ t + 4 < 232) ∧ LAY (t + 4).toNat = (0, 4) := by decide +kernel
  exact key t h
theorem Gm_rowPick {t : Int} (h : isG t) : isArr (t + 5) 0 4 := by
  have key : ∀ t ∈ ([156, 167] : List Int), (0 ≤ t + 5 ∧ t + 5 < 232) ∧ LAY (t + 5).toNat = (0, 4) := by decide +kernel
  exact key t h
theorem Gm_choices {t : Int} (h : isG t) : isArr (t + 6) 0 96 := by
  have key : ∀ t ∈ ([156, 167] : List Int), (0 ≤ t + 6 ∧ t + 6 < 232) ∧ LAY (t + 6).toNat = (0, 96) := by decide +kernel
  exact key t h
theorem Gm_ones {t : Int} (h : isG t) : isArr (t + 7) 1 2024 := by
  have key : ∀ t ∈ ([156, 167] : List Int), (0 ≤ t + 7 ∧ t + 7 < 232) ∧ LAY (t + 7).toNat = (1, 2024) := by decide +kernel
  exact key t h
theorem Gm_square {t : Int} (h : isG t) : isArr (t + 8) 1 9 := by
  have key : ∀ t ∈ ([156, 167] : List Int), (0 ≤ t + 8 ∧ t + 8 < 232) ∧ LAY (t + 8).toNat = (1, 9) := by decide +kernel
  exact key t h
theorem Gm_cellShare {t : Int} (h : isG t) : isArr (t + 9) 1 4 := by
  have key : ∀ t ∈ ([156, 167] : List Int), (0 ≤ t + 9 ∧ t + 9 < 232) ∧ LAY (t + 9).toNat = (1, 4) := by decide +kernel
  exact key t h
theorem Gm_rowShare {t : Int} (h : isG t) : isArr (t + 10) 1 4 := by
  have key : ∀ t ∈ ([156, 167] : List Int), (0 ≤ t + 10 ∧ t + 10 < 232) ∧ LAY (t + 10).toNat = (1, 4) := by decide +kernel
  exact key t h
theorem c_0 : isC 0 10 := by unfold isC; decide +kernel
theorem c_1 : isC 1 9 := by unfold isC; decide +kernel
theorem a_2 : isArr 2 2 500 := by unfold isArr; decide +kernel
theorem a_3 : isArr 3 4 3 := by unfold isArr; decide +kernel
theorem c_4 : isC 4 7 := by unfold isC; decide +kernel
theorem a_5 : isArr 5 0 64 := by unfold isArr; decide +kernel
theorem a_6 : isArr 6 0 64 := by unfold isArr; decide +kernel
theorem a_7 : isArr 7 0 8 := by unfold isArr; decide +kernel
theorem a_8 : isArr 8 0 8 := by unfold isArr; decide +kernel
theorem a_9 : isArr 9 0 8 := by unfold isArr; decide +kernel
theorem a_10 : isArr 10 0 128 := by unfold isArr; decide +kernel
theorem a_11 : isArr 11 0 8 := by unfold isArr; decide +kernel
theorem a_12 : isArr 12 0 8 := by unfold isArr; decide +kernel
theorem a_13 : isArr 13 0 7 := by unfold isArr; decide +kernel
theorem c_14 : isC 14 7 := by unfold isC; decide +kernel
theorem a_15 : isArr 15 0 64 := by unfold isArr; decide +kernel
theorem a_16 : isArr 16 0 64 := by unfold isArr; decide +kernel
theorem a_17 : isArr 17 0 8 := by unfold isArr; decide +kernel
theorem a_18 : isArr 18 0 8 := by unfold isArr; decide +kernel
theorem a_19 : isArr 19 0 8 := by unfold isArr; decide +kernel
theorem a_20 : isArr 20 0 128 := by unfold isArr; decide +kernel
theorem a_21 : isArr 21 0 8 := by unfold isArr; decide +kernel
theorem a_22 : isArr 22 0 8 := by unfold isArr; decide +kernel
theorem a_23 : isArr 23 0 7 := by unfold isArr; decide +kernel
theorem c_24 : isC 24 7 := by unfold isC; decide +kernel
theorem a_25 : isArr 25 0 64 := by unfold isArr; decide +kernel
theorem a_26 : isArr 26 0 64 := by unfold isArr; decide +kernel
theorem a_27 : isArr 27 0 8 := by unfold isArr; decide +kernel
theorem a_28 : isArr 28 0 8 := by unfold isArr; decide +kernel
theorem a_29 : isArr 29 0 8 := by unfold isArr; decide +kernel
theorem a_30 : isArr 30 0 128 := by unfold isArr; decide +kernel
theorem a_31 : isArr 31 0 8 := by unfold isArr; decide +kernel
theorem a_32 : isArr 32 0 8 := by unfold isArr; decide +kernel
theorem a_33 : isArr 33 0 7 := by unfold isArr; decide +kernel
theorem a_34 : isArr 34 5 3 := by unfold isArr; decide +kernel
theorem c_35 : isC 35 9 := by unfold isC; decide +kernel
theorem a_36 : isArr 36 2 500 := by unfold isArr; decide +kernel
theorem a_37 : isArr 37 4 3 := by unfold isArr; decide +kernel
theorem c_38 : isC 38 7 := by unfold isC; decide +kernel
theorem a_39 : isArr 39 0 64 := by unfold isArr; decide +kernel
theorem a_40 : isArr 40 0 64 := by unfold isArr; decide +kernel
theorem a_41 : isArr 41 0 8 := by unfold isArr; decide +kernel
theorem a_42 : isArr 42 0 8 := by unfold isArr; decide +kernel
theorem a_43 : isArr 43 0 8 := by unfold isArr; decide +kernel
theorem a_44 : isArr 44 0 128 := by unfold isArr; decide +kernel
theorem a_45 : isArr 45 0 8 := by unfold isArr; decide +kernel
theorem a_46 : isArr 46 0 8 := by unfold isArr; decide +kernel
theorem a_47 : isArr 47 0 7 := by unfold isArr; decide +kernel
theorem c_48 : isC 48 7 := by unfold isC; decide +kernel
theorem a_49 : isArr 49 0 64 := by unfold isArr; decide +kernel
theorem a_50 : isArr 50 0 64 := by unfold isArr; decide +kernel
theorem a_51 : isArr 51 0 8 := by unfold isArr; decide +kernel
theorem a_52 : isArr 52 0 8 := by unfold isArr; decide +kernel
theorem a_53 : isArr 53 0 8 := by unfold isArr; decide +kernel
theorem a_54 : isArr 54 0 128 := by unfold isArr; decide +kernel
theorem a_55 : isArr 55 0 8 := by unfold isArr; decide +kernel
theorem a_56 : isArr 56 0 8 := by unfold isArr; decide +kernel
theorem a_57 : isArr 57 0 7 := by unfold isArr; decide +kernel
theorem c_58 : isC 58 7 := by unfold isC; decide +kernel
theorem a_59 : isArr 59 0 64 := by unfold isArr; decide +kernel
theorem a_60 : isArr 60 0 64 := by unfold isArr; decide +kernel
theorem a_61 : isArr 61 0 8 := by unfold isArr; decide +kernel
theorem a_62 : isArr 62 0 8 := by unfold isArr; decide +kernel
theorem a_63 : isArr 63 0 8 := by unfold isArr; decide +kernel
theorem a_64 : isArr 64 0 128 := by unfold isArr; decide +kernel
theorem a_65 : isArr 65 0 8 := by unfold isArr; decide +kernel
theorem a_66 : isArr 66 0 8 := by unfold isArr; decide +kernel
theorem a_67 : isArr 67 0 7 := by unfold isArr; decide +kernel
theorem c_68 : isC 68 9 := by unfold isC; decide +kernel
theorem a_69 : isArr 69 2 500 := by unfold isArr; decide +kernel
theorem a_70 : isArr 70 4 3 := by unfold isArr; decide +kernel
theorem c_71 : isC 71 7 := by unfold isC; decide +kernel
theorem a_72 : isArr 72 0 64 := by unfold isArr; decide +kernel
theorem a_73 : isArr 73 0 64 := by unfold isArr; decide +kernel
theorem a_74 : isArr 74 0 8 := by unfold isArr; decide +kernel
theorem a_75 : isArr 75 0 8 := by unfold isArr; decide +kernel
theorem a_76 : isArr 76 0 8 := by unfold isArr; decide +kernel
theorem a_77 : isArr 77 0 128 := by unfold isArr; decide +kernel
theorem a_78 : isArr 78 0 8 := by unfold isArr; decide +kernel
theorem a_79 : isArr 79 0 8 := by unfold isArr; decide +kernel
theorem a_80 : isArr 80 0 7 := by unfold isArr; decide +kernel
theorem c_81 : isC 81 7 := by unfold isC; decide +kernel
theorem a_82 : isArr 82 0 64 := by unfold isArr; decide +kernel
theorem a_83 : isArr 83 0 64 := by unfold isArr; decide +kernel
theorem a_84 : isArr 84 0 8 := by unfold isArr; decide +kernel
theorem a_85 : isArr 85 0 8 := by unfold isArr; decide +kernel
theorem a_86 : isArr 86 0 8 := by unfold isArr; decide +kernel
theorem a_87 : isArr 87 0 128 := by unfold isArr; decide +kernel
theorem a_88 : isArr 88 0 8 := by unfold isArr; decide +kernel
theorem a_89 : isArr 89 0 8 := by unfold isArr; decide +kernel
theorem a_90 : isArr 90 0 7 := by unfold isArr; decide +kernel
theorem c_91 : isC 91 7 := by unfold isC; decide +kernel
theorem a_92 : isArr 92 0 64 := by unfold isArr; decide +kernel
theorem a_93 : isArr 93 0 64 := by unfold isArr; decide +kernel
theorem a_94 : isArr 94 0 8 := by unfold isArr; decide +kernel
theorem a_95 : isArr 95 0 8 := by unfold isArr; decide +kernel
theorem a_96 : isArr 96 0 8 := by unfold isArr; decide +kernel
theorem a_97 : isArr 97 0 128 := by unfold isArr; decide +kernel
theorem a_98 : isArr 98 0 8 := by unfold isArr; decide +kernel
theorem a_99 : isArr 99 0 8 := by unfold isArr; decide +kernel
theorem a_100 : isArr 100 0 7 := by unfold isArr; decide +kernel
theorem c_101 : isC 101 9 := by unfold isC; decide +kernel
theorem a_102 : isArr 102 2 500 := by unfold isArr; decide +kernel
theorem a_103 : isArr 103 4 3 := by unfold isArr; decide +kernel
theorem c_104 : isC 104 7 := by unfold isC; decide +kernel
theorem a_105 : isArr 105 0 64 := by unfold isArr; decide +kernel
theorem a_106 : isArr 106 0 64 := by unfold isArr; decide +kernel
theorem a_107 : isArr 107 0 8 := by unfold isArr; decide +kernel
theorem a_108 : isArr 108 0 8 := by unfold isArr; decide +kernel
theorem a_109 : isArr 109 0 8 := by unfold isArr; decide +kernel
theorem a_110 : isArr 110 0 128 := by unfold isArr; decide +kernel
theorem a_111 : isArr 111 0 8 := by unfold isArr; decide +kernel
theorem a_112 : isArr 112 0 8 := by unfold isArr; decide +kernel
theorem a_113 : isArr 113 0 7 := by unfold isArr; decide +kernel
theorem c_114 : isC 114 7 := by unfold isC; decide +kernel
theorem a_115 : isArr 115 0 64 := by unfold isArr; decide +kernel
theorem a_116 : isArr 116 0 64 := by unfold isArr; decide +kernel
theorem a_117 : isArr 117 0 8 := by unfold isArr; decide +kernel
theorem a_118 : isArr 118 0 8 := by unfold isArr; decide +kernel
theorem a_119 : isArr 119 0 8 := by unfold isArr; decide +kernel
theorem a_120 : isArr 120 0 128 := by unfold isArr; decide +kernel
theorem a_121 : isArr 121 0 8 := by unfold isArr; decide +kernel
theorem a_122 : isArr 122 0 8 := by unfold isArr; decide +kernel
theorem a_123 : isArr 123 0 7 := by unfold isArr; decide +kernel
theorem c_124 : isC 124 7 := by unfold isC; decide +kernel
theorem a_125 : isArr 125 0 64 := by unfold isArr; decide +kernel
theorem a_126 : isArr 126 0 64 := by unfold isArr; decide +kernel
theorem a_127 : isArr 127 0 8 := by unfold isArr; decide +kernel
theorem a_128 : isArr 128 0 8 := by unfold isArr; decide +kernel
theorem a_129 : isArr 129 0 8 := by unfold isArr; decide +kernel
theorem a_130 : isArr 130 0 128 := by unfold isArr; decide +kernel
theorem a_131 : isArr 131 0 8 := by unfold isArr; decide +kernel
theorem a_132 : isArr 132 0 8 := by unfold isArr; decide +kernel
theorem a_133 : isArr 133 0 7 := by unfold isArr; decide +kernel
theorem a_134 : isArr 134 3 3 := by unfold isArr; decide +kernel
theorem c_135 : isC 135 7 := by unfold isC; decide +kernel
theorem a_136 : isArr 136 0 64 := by unfold isArr; decide +kernel
theorem a_137 : isArr 137 0 64 := by unfold isArr; decide +kernel
theorem a_138 : isArr 138 0 8 := by unfold isArr; decide +kernel
theorem a_139 : isArr 139 0 8 := by unfold isArr; decide +kernel
theorem a_140 : isArr 140 0 8 := by unfold isArr; decide +kernel
theorem a_141 : isArr 141 0 128 := by unfold isArr; decide +kernel
theorem a_142 : isArr 142 0 8 := by unfold isArr; decide +kernel
theorem a_143 : isArr 143 0 8 := by unfold isArr; decide +kernel
theorem a_144 : isArr 144 0 7 := by unfold isArr; decide +kernel
theorem c_145 : isC 145 5 := by unfold isC; decide +kernel
theorem a_146 : isArr 146 0 501 := by unfold isArr; decide +kernel
theorem a_147 : isArr 147 0 501 := by unfold isArr; decide +kernel
theorem a_148 : isArr 148 0 501 := by unfold isArr; decide +kernel
theorem c_149 : isC 149 6 := by unfold isC; decide +kernel
theorem a_150 : isArr 150 0 256 := by unfold isArr; decide +kernel
theorem a_151 : isArr 151 0 256 := by unfold isArr; decide +kernel
theorem a_152 : isArr 152 0 256 := by unfold isArr; decide +kernel
theorem a_153 : isArr 153 0 2048 := by unfold isArr; decide +kernel
theorem a_154 : isArr 154 0 64 := by unfold isArr; decide +kernel
theorem a_155 : isArr 155 0 8 := by unfold isArr; decide +kernel
theorem c_156 : isC 156 0 := by unfold isC; decide +kernel
theorem a_157 : isArr 157 0 4 := by unfold isArr; decide +kernel
theorem a_158 : isArr 158 0 96 := by unfold isArr; decide +kernel
theorem a_159 : isArr 159 0 96 := by unfold isArr; decide +kernel
theorem a_160 : isArr 160 0 4 := by unfold isArr; decide +kernel
theorem a_161 : isArr 161 0 4 := by unfold isArr; decide +kernel
theorem a_162 : isArr 162 0 96 := by unfold isArr; decide +kernel
theorem a_163 : isArr 163 1 2024 := by unfold isArr; decide +kernel
theorem a_164 : isArr 164 1 9 := by unfold isArr; decide +kernel
theorem a_165 : isArr 165 1 4 := by unfold isArr; decide +kernel
theorem a_166 : isArr 166 1 4 := by unfold isArr; decide +kernel
theorem c_167 : isC 167 0 := by unfold isC; decide +kernel
theorem a_168 : isArr 168 0 4 := by unfold isArr; decide +kernel
theorem a_169 : isArr 169 0 96 := by unfold isArr; decide +kernel
theorem a_170 : isArr 170 0 96 := by unfold isArr; decide +kernel
theorem a_171 : isArr 171 0 4 := by unfold isArr; decide +kernel
theorem a_172 : isArr 172 0 4 := by unfold isArr; decide +kernel
theorem a_173 : isArr 173 0 96 := by unfold isArr; decide +kernel
theorem a_174 : isArr 174 1 2024 := by unfold isArr; decide +kernel
theorem a_175 : isArr 175 1 9 := by unfold isArr; decide +kernel
theorem a_176 : isArr 176 1 4 := by unfold isArr; decide +kernel
theorem a_177 : isArr 177 1 4 := by unfold isArr; decide +kernel
theorem c_178 : isC 178 3 := by unfold isC; decide +kernel
theorem a_179 : isArr 179 0 64 := by unfold isArr; decide +kernel
theorem c_180 : isC 180 1 := by unfold isC; decide +kernel
theorem a_181 : isArr 181 0 64 := by unfold isArr; decide +kernel
theorem a_182 : isArr 182 1 65 := by unfold isArr; decide +kernel
theorem a_183 : isArr 183 1 65 := by unfold isArr; decide +kernel
theorem a_184 : isArr 184 1 8 := by unfold isArr; decide +kernel
theorem a_185 : isArr 185 0 8 := by unfold isArr; decide +kernel
theorem c_186 : isC 186 2 := by unfold isC; decide +kernel
theorem a_187 : isArr 187 0 64 := by unfold isArr; decide +kernel
theorem a_188 : isArr 188 1 40 := by unfold isArr; decide +kernel
theorem a_189 : isArr 189 1 40 := by unfold isArr; decide +kernel
theorem a_190 : isArr 190 1 5 := by unfold isArr; decide +kernel
theorem a_191 : isArr 191 0 5 := by unfold isArr; decide +kernel
theorem a_192 : isArr 192 0 5 := by unfold isArr; decide +kernel
theorem a_193 : isArr 193 1 8 := by unfold isArr; decide +kernel
theorem a_194 : isArr 194 1 8 := by unfold isArr; decide +kernel
theorem c_195 : isC 195 8 := by unfold isC; decide +kernel
theorem a_196 : isArr 196 0 8 := by unfold isArr; decide +kernel
theorem a_197 : isArr 197 0 8 := by unfold isArr; decide +kernel
theorem c_198 : isC 198 4 := by unfold isC; decide +kernel
theorem a_199 : isArr 199 0 256 := by unfold isArr; decide +kernel
theorem a_200 : isArr 200 0 8 := by unfold isArr; decide +kernel
theorem c_201 : isC 201 11 := by unfold isC; decide +kernel
theorem a_202 : isArr 202 0 5160 := by unfold isArr; decide +kernel
theorem a_203 : isArr 203 3 3 := by unfold isArr; decide +kernel
theorem a_204 : isArr 204 0 104 := by unfold isArr; decide +kernel
theorem a_205 : isArr 205 0 7 := by unfold isArr; decide +kernel
theorem a_206 : isArr 206 0 64 := by unfold isArr; decide +kernel
theorem a_207 : isArr 207 0 128 := by unfold isArr; decide +kernel
theorem a_208 : isArr 208 0 1024 := by unfold isArr; decide +kernel
theorem a_209 : isArr 209 0 96 := by unfold isArr; decide +kernel
theorem a_210 : isArr 210 0 4 := by unfold isArr; decide +kernel
theorem a_211 : isArr 211 0 4 := by unfold isArr; decide +kernel
theorem a_212 : isArr 212 0 4 := by unfold isArr; decide +kernel
theorem a_213 : isArr 213 1 4 := by unfold isArr; decide +kernel
theorem a_214 : isArr 214 1 4 := by unfold isArr; decide +kernel
theorem a_215 : isArr 215 0 8 := by unfold isArr; decide +kernel
theorem a_216 : isArr 216 0 8 := by unfold isArr; decide +kernel
theorem a_217 : isArr 217 0 8 := by unfold isArr; decide +kernel
theorem a_218 : isArr 218 0 8 := by unfold isArr; decide +kernel
theorem a_219 : isArr 219 0 8 := by unfold isArr; decide +kernel
theorem a_220 : isArr 220 0 64 := by unfold isArr; decide +kernel
theorem a_221 : isArr 221 1 65 := by unfold isArr; decide +kernel
theorem a_222 : isArr 222 0 8 := by unfold isArr; decide +kernel
theorem a_223 : isArr 223 1 48 := by unfold isArr; decide +kernel
theorem a_224 : isArr 224 1 6 := by unfold isArr; decide +kernel
theorem a_225 : isArr 225 0 5 := by unfold isArr; decide +kernel
theorem a_226 : isArr 226 0 5 := by unfold isArr; decide +kernel
theorem a_227 : isArr 227 0 8 := by unfold isArr; decide +kernel
theorem a_228 : isArr 228 0 2304 := by unfold isArr; decide +kernel
theorem a_229 : isArr 229 0 256 := by unfold isArr; decide +kernel
theorem a_230 : isArr 230 1 8 := by unfold isArr; decide +kernel
theorem a_231 : isArr 231 1 8 := by unfold isArr; decide +kernel
theorem AC_X0_76 : Cond.methodLink RX0 76 arraycopyName ∈ lw_ok := in_ok (i := 890) (by decide +kernel) rfl
theorem AC_X2_100 : Cond.methodLink RX2 100 arraycopyName ∈ lw_ok := in_ok (i := 1125) (by decide +kernel) rfl
theorem AC_X6_38 : Cond.methodLink RX6 38 arraycopyName ∈ lw_ok := in_ok (i := 780) (by decide +kernel) rfl
theorem AC_X7_73 : Cond.methodLink RX7 73 arraycopyName ∈ lw_ok := in_ok (i := 700) (by decide +kernel) rfl
theorem AC_X9_26 : Cond.methodLink RX9 26 arraycopyName ∈ lw_ok := in_ok (i := 1231) (by decide +kernel) rfl
theorem MI0 : Cond.initialized "java/lang/Math" ∈ lw_ok := in_ok (i := 13) (by decide +kernel) rfl
theorem MS0 : Cond.static Lib.Math.min.name ∈ lw_ok := in_ok (i := 562) (by decide +kernel) rfl
theorem MC0 : Cond.code Lib.Math.min.name Lib.Math.min.code 2 (some .int) ∈ lw_ok := in_ok (i := 563) (by decide +kernel) rfl
theorem MS1 : Cond.static Lib.Math.max.name ∈ lw_ok := in_ok (i := 881) (by decide +kernel) rfl
theorem MC1 : Cond.code Lib.Math.max.name Lib.Math.max.code 2 (some .int) ∈ lw_ok := in_ok (i := 882) (by decide +kernel) rfl
theorem MS2 : Cond.static Lib.MathLoose.abs_long.x ∈ lw_ok := in_ok (i := 922) (by decide +kernel) rfl
theorem MC2 : Cond.code Lib.MathLoose.abs_long.x Lib.MathLoose.abs_long.code 2 (some .long) ∈ lw_ok := in_ok (i := 923) (by decide +kernel) rfl
theorem ML_X0_91 : Cond.methodLink RX0 91 Lib.Math.max.name ∈ lw_ok := in_ok (i := 880) (by decide +kernel) rfl
theorem ML_X0_140 : Cond.methodLink RX0 140 Lib.MathLoose.abs_long.x ∈ lw_ok := in_ok (i := 921) (by decide +kernel) rfl
theorem ML_X5_28 : Cond.methodLink RX5 28 Lib.Math.min.name ∈ lw_ok := in_ok (i := 561) (by decide +kernel) rfl
theorem ML_X6_135 : Cond.methodLink RX6 135 Lib.Math.min.name ∈ lw_ok := in_ok (i := 799) (by decide +kernel) rfl
theorem ML_X7_84 : Cond.methodLink RX7 84 Lib.Math.min.name ∈ lw_ok := in_ok (i := 849) (by decide +kernel) rfl
theorem ML_X7_106 : Cond.methodLink RX7 106 Lib.Math.max.name ∈ lw_ok := in_ok (i := 1191) (by decide +kernel) rfl
theorem ML_X10_309 : Cond.methodLink RX10 309 Lib.Math.min.name ∈ lw_ok := in_ok (i := 1081) (by decide +kernel) rfl
