/-! cofactors added up are the kernel's numbers -/
theorem cof_1_0_0 {A : Int → Int → Int} : cofM A 1 0 0 = 1 * 1 := rfl
theorem cof_2_0_0 {A : Int → Int → Int} : cofM A 2 0 0 = 1 * A 1 1 := rfl
theorem cof_2_0_1 {A : Int → Int → Int} : cofM A 2 0 1 = -1 * A 1 0 := rfl
theorem cof_2_1_0 {A : Int → Int → Int} : cofM A 2 1 0 = -1 * A 0 1 := rfl
theorem cof_2_1_1 {A : Int → Int → Int} : cofM A 2 1 1 = 1 * A 0 0 := rfl
theorem cof_3_0_0 {A : Int → Int → Int} : cofM A 3 0 0 = 1 * (A 1 1 * A 2 2 - A 1 2 * A 2 1) := rfl
theorem cof_3_0_1 {A : Int → Int → Int} : cofM A 3 0 1 = -1 * (A 1 0 * A 2 2 - A 1 2 * A 2 0) := rfl
theorem cof_3_0_2 {A : Int → Int → Int} : cofM A 3 0 2 = 1 * (A 1 0 * A 2 1 - A 1 1 * A 2 0) := rfl
theorem cof_3_1_0 {A : Int → Int → Int} : cofM A 3 1 0 = -1 * (A 0 1 * A 2 2 - A 0 2 * A 2 1) := rfl
theorem cof_3_1_1 {A : Int → Int → Int} : cofM A 3 1 1 = 1 * (A 0 0 * A 2 2 - A 0 2 * A 2 0) := rfl
theorem cof_3_1_2 {A : Int → Int → Int} : cofM A 3 1 2 = -1 * (A 0 0 * A 2 1 - A 0 1 * A 2 0) := rfl
theorem cof_3_2_0 {A : Int → Int → Int} : cofM A 3 2 0 = 1 * (A 0 1 * A 1 2 - A 0 2 * A 1 1) := rfl
theorem cof_3_2_1 {A : Int → Int → Int} : cofM A 3 2 1 = -1 * (A 0 0 * A 1 2 - A 0 2 * A 1 0) := rfl
theorem cof_3_2_2 {A : Int → Int → Int} : cofM A 3 2 2 = 1 * (A 0 0 * A 1 1 - A 0 1 * A 1 0) := rfl
theorem cof_4_0_0 {A : Int → Int → Int} : cofM A 4 0 0 = 1 * (A 1 1 * (A 2 2 * A 3 3 - A 2 3 * A 3 2) - A 1 2 * (A 2 1 * A 3 3 - A 2 3 * A 3 1) + A 1 3 * (A 2 1 * A 3 2 - A 2 2 * A 3 1)) := rfl
theorem cof_4_0_1 {A : Int → Int → Int} : cofM A 4 0 1 = -1 * (A 1 0 * (A 2 2 * A 3 3 - A 2 3 * A 3 2) - A 1 2 * (A 2 0 * A 3 3 - A 2 3 * A 3 0) + A 1 3 * (A 2 0 * A 3 2 - A 2 2 * A 3 0)) := rfl
theorem cof_4_0_2 {A : Int → Int → Int} : cofM A 4 0 2 = 1 * (A 1 0 * (A 2 1 * A 3 3 - A 2 3 * A 3 1) - A 1 1 * (A 2 0 * A 3 3 - A 2 3 * A 3 0) + A 1 3 * (A 2 0 * A 3 1 - A 2 1 * A 3 0)) := rfl
theorem cof_4_0_3 {A : Int → Int → Int} : cofM A 4 0 3 = -1 * (A 1 0 * (A 2 1 * A 3 2 - A 2 2 * A 3 1) - A 1 1 * (A 2 0 * A 3 2 - A 2 2 * A 3 0) + A 1 2 * (A 2 0 * A 3 1 - A 2 1 * A 3 0)) := rfl
theorem cof_4_1_0 {A : Int → Int → Int} : cofM A 4 1 0 = -1 * (A 0 1 * (A 2 2 * A 3 3 - A 2 3 * A 3 2) - A 0 2 * (A 2 1 * A 3 3 - A 2 3 * A 3 1) + A 0 3 * (A 2 1 * A 3 2 - A 2 2 * A 3 1)) := rfl
theorem cof_4_1_1 {A : Int → Int → Int} : cofM A 4 1 1 = 1 * (A 0 0 * (A 2 2 * A 3 3 - A 2 3 * A 3 2) - A 0 2 * (A 2 0 * A 3 3 - A 2 3 * A 3 0) + A 0 3 * (A 2 0 * A 3 2 - A 2 2 * A 3 0)) := rfl
theorem cof_4_1_2 {A : Int → Int → Int} : cofM A 4 1 2 = -1 * (A 0 0 * (A 2 1 * A 3 3 - A 2 3 * A 3 1) - A 0 1 * (A 2 0 * A 3 3 - A 2 3 * A 3 0) + A 0 3 * (A 2 0 * A 3 1 - A 2 1 * A 3 0)) := rfl
theorem cof_4_1_3 {A : Int → Int → Int} : cofM A 4 1 3 = 1 * (A 0 0 * (A 2 1 * A 3 2 - A 2 2 * A 3 1) - A 0 1 * (A 2 0 * A 3 2 - A 2 2 * A 3 0) + A 0 2 * (A 2 0 * A 3 1 - A 2 1 * A 3 0)) := rfl
theorem cof_4_2_0 {A : Int → Int → Int} : cofM A 4 2 0 = 1 * (A 0 1 * (A 1 2 * A 3 3 - A 1 3 * A 3 2) - A 0 2 * (A 1 1 * A 3 3 - A 1 3 * A 3 1) + A 0 3 * (A 1 1 * A 3 2 - A 1 2 * A 3 1)) := rfl
theorem cof_4_2_1 {A : Int → Int → Int} : cofM A 4 2 1 = -1 * (A 0 0 * (A 1 2 * A 3 3 - A 1 3 * A 3 2) - A 0 2 * (A 1 0 * A 3 3 - A 1 3 * A 3 0) + A 0 3 * (A 1 0 * A 3 2 - A 1 2 * A 3 0)) := rfl
theorem cof_4_2_2 {A : Int → Int → Int} : cofM A 4 2 2 = 1 * (A 0 0 * (A 1 1 * A 3 3 - A 1 3 * A 3 1) - A 0 1 * (A 1 0 * A 3 3 - A 1 3 * A 3 0) + A 0 3 * (A 1 0 * A 3 1 - A 1 1 * A 3 0)) := rfl
theorem cof_4_2_3 {A : Int → Int → Int} : cofM A 4 2 3 = -1 * (A 0 0 * (A 1 1 * A 3 2 - A 1 2 * A 3 1) - A 0 1 * (A 1 0 * A 3 2 - A 1 2 * A 3 0) + A 0 2 * (A 1 0 * A 3 1 - A 1 1 * A 3 0)) := rfl
theorem cof_4_3_0 {A : Int → Int → Int} : cofM A 4 3 0 = -1 * (A 0 1 * (A 1 2 * A 2 3 - A 1 3 * A 2 2) - A 0 2 * (A 1 1 * A 2 3 - A 1 3 * A 2 1) + A 0 3 * (A 1 1 * A 2 2 - A 1 2 * A 2 1)) := rfl
theorem cof_4_3_1 {A : Int → Int → Int} : cofM A 4 3 1 = 1 * (A 0 0 * (A 1 2 * A 2 3 - A 1 3 * A 2 2) - A 0 2 * (A 1 0 * A 2 3 - A 1 3 * A 2 0) + A 0 3 * (A 1 0 * A 2 2 - A 1 2 * A 2 0)) := rfl
theorem cof_4_3_2 {A : Int → Int → Int} : cofM A 4 3 2 = -1 * (A 0 0 * (A 1 1 * A 2 3 - A 1 3 * A 2 1) - A 0 1 * (A 1 0 * A 2 3 - A 1 3 * A 2 0) + A 0 3 * (A 1 0 * A 2 1 - A 1 1 * A 2 0)) := rfl
theorem cof_4_3_3 {A : Int → Int → Int} : cofM A 4 3 3 = 1 * (A 0 0 * (A 1 1 * A 2 2 - A 1 2 * A 2 1) - A 0 1 * (A 1 0 * A 2 2 - A 1 2 * A 2 0) + A 0 2 * (A 1 0 * A 2 1 - A 1 1 * A 2 0)) := rfl
theorem cofR_1_0 {F A : Int → Int → Int} {cp rp : Int → Int} (hA : ∀ i j, A i j = F (cp i) (rp j)) : sm (fun i => cofM A 1 i 0) 1 = kerR F 1 cp rp 0 := by
  rw [sm_1, cof_1_0_0, kerRc_1_0]
  rfl
theorem cofC_1_0 {F A : Int → Int → Int} {cp rp : Int → Int} (hA : ∀ i j, A i j = F (cp i) (rp j)) : sm (fun j => cofM A 1 0 j) 1 = kerC F 1 cp rp 0 := by
  rw [sm_1, cof_1_0_0, kerCc_1_0]
  rfl
theorem cofD_1 {F A : Int → Int → Int} {cp rp : Int → Int} (hA : ∀ i j, A i j = F (cp i) (rp j)) : sm (fun j => A 0 j * cofM A 1 0 j) 1 = kerD F 1 cp rp := by
  rw [sm_1, cof_1_0_0, kerD_1]
  unfold MD1
  simp only [hA]
  grind
theorem cofR_2_0 {F A : Int → Int → Int} {cp rp : Int → Int} (hA : ∀ i j, A i j = F (cp i) (rp j)) : sm (fun i => cofM A 2 i 0) 2 = kerR F 2 cp rp 0 := by
  rw [sm_2, cof_2_0_0, cof_2_1_0, kerRc_2_0]
  simp only [hA]
  grind
theorem cofC_2_0 {F A : Int → Int → Int} {cp rp : Int → Int} (hA : ∀ i j, A i j = F (cp i) (rp j)) : sm (fun j => cofM A 2 0 j) 2 = kerC F 2 cp rp 0 := by
  rw [sm_2, cof_2_0_0, cof_2_0_1, kerCc_2_0]
  simp only [hA]
  grind
theorem cofR_2_1 {F A : Int → Int → Int} {cp rp : Int → Int} (hA : ∀ i j, A i j = F (cp i) (rp j)) : sm (fun i => cofM A 2 i 1) 2 = kerR F 2 cp rp 1 := by
  rw [sm_2, cof_2_0_1, cof_2_1_1, kerRc_2_1]
  simp only [hA]
  grind
theorem cofC_2_1 {F A : Int → Int → Int} {cp rp : Int → Int} (hA : ∀ i j, A i j = F (cp i) (rp j)) : sm (fun j => cofM A 2 1 j) 2 = kerC F 2 cp rp 1 := by
  rw [sm_2, cof_2_1_0, cof_2_1_1, kerCc_2_1]
  simp only [hA]
  grind
theorem cofD_2 {F A : Int → Int → Int} {cp rp : Int → Int} (hA : ∀ i j, A i j = F (cp i) (rp j)) : sm (fun j => A 0 j * cofM A 2 0 j) 2 = kerD F 2 cp rp := by
  rw [sm_2, cof_2_0_0, cof_2_0_1, kerD_2]
  unfold MD2
  simp only [hA]
  grind
theorem cofR_3_0 {F A : Int → Int → Int} {cp rp : Int → Int} (hA : ∀ i j, A i j = F (cp i) (rp j)) : sm (fun i => cofM A 3 i 0) 3 = kerR F 3 cp rp 0 := by
  rw [sm_3, cof_3_0_0, cof_3_1_0, cof_3_2_0, kerRc_3_0]
  simp only [hA]
  grind
theorem cofC_3_0 {F A : Int → Int → Int} {cp rp : Int → Int} (hA : ∀ i j, A i j = F (cp i) (rp j)) : sm (fun j => cofM A 3 0 j) 3 = kerC F 3 cp rp 0 := by
  rw [sm_3, cof_3_0_0, cof_3_0_1, cof_3_0_2, kerCc_3_0]
  simp only [hA]
  grind
theorem cofR_3_1 {F A : Int → Int → Int} {cp rp : Int → Int} (hA : ∀ i j, A i j = F (cp i) (rp j)) : sm (fun i => cofM A 3 i 1) 3 = kerR F 3 cp rp 1 := by
  rw [sm_3, cof_3_0_1, cof_3_1_1, cof_3_2_1, kerRc_3_1]
  simp only [hA]
  grind
theorem cofC_3_1 {F A : Int → Int → Int} {cp rp : Int → Int} (hA : ∀ i j, A i j = F (cp i) (rp j)) : sm (fun j => cofM A 3 1 j) 3 = kerC F 3 cp rp 1 := by
  rw [sm_3, cof_3_1_0, cof_3_1_1, cof_3_1_2, kerCc_3_1]
  simp only [hA]
  grind
theorem cofR_3_2 {F A : Int → Int → Int} {cp rp : Int → Int} (hA : ∀ i j, A i j = F (cp i) (rp j)) : sm (fun i => cofM A 3 i 2) 3 = kerR F 3 cp rp 2 := by
  rw [sm_3, cof_3_0_2, cof_3_1_2, cof_3_2_2, kerRc_3_2]
  simp only [hA]
  grind
theorem cofC_3_2 {F A : Int → Int → Int} {cp rp : Int → Int} (hA : ∀ i j, A i j = F (cp i) (rp j)) : sm (fun j => cofM A 3 2 j) 3 = kerC F 3 cp rp 2 := by
  rw [sm_3, cof_3_2_0, cof_3_2_1, cof_3_2_2, kerCc_3_2]
  simp only [hA]
  grind
theorem cofD_3 {F A : Int → Int → Int} {cp rp : Int → Int} (hA : ∀ i j, A i j = F (cp i) (rp j)) : sm (fun j => A 0 j * cofM A 3 0 j) 3 = kerD F 3 cp rp := by
  rw [sm_3, cof_3_0_0, cof_3_0_1, cof_3_0_2, kerD_3]
  unfold MD3
  simp only [hA]
  grind
theorem cofR_4_0 {F A : Int → Int → Int} {cp rp : Int → Int} (hA : ∀ i j, A i j = F (cp i) (rp j)) : sm (fun i => cofM A 4 i 0) 4 = kerR F 4 cp rp 0 := by
  rw [sm_4, cof_4_0_0, cof_4_1_0, cof_4_2_0, cof_4_3_0, kerRc_4_0]
  simp only [hA]
  grind
theorem cofC_4_0 {F A : Int → Int → Int} {cp rp : Int → Int} (hA : ∀ i j, A i j = F (cp i) (rp j)) : sm (fun j => cofM A 4 0 j) 4 = kerC F 4 cp rp 0 := by
  rw [sm_4, cof_4_0_0, cof_4_0_1, cof_4_0_2, cof_4_0_3, kerCc_4_0]
  simp only [hA]
  grind
theorem cofR_4_1 {F A : Int → Int → Int} {cp rp : Int → Int} (hA : ∀ i j, A i j = F (cp i) (rp j)) : sm (fun i => cofM A 4 i 1) 4 = kerR F 4 cp rp 1 := by
  rw [sm_4, cof_4_0_1, cof_4_1_1, cof_4_2_1, cof_4_3_1, kerRc_4_1]
  simp only [hA]
  grind
theorem cofC_4_1 {F A : Int → Int → Int} {cp rp : Int → Int} (hA : ∀ i j, A i j = F (cp i) (rp j)) : sm (fun j => cofM A 4 1 j) 4 = kerC F 4 cp rp 1 := by
  rw [sm_4, cof_4_1_0, cof_4_1_1, cof_4_1_2, cof_4_1_3, kerCc_4_1]
  simp only [hA]
  grind
theorem cofR_4_2 {F A : Int → Int → Int} {cp rp : Int → Int} (hA : ∀ i j, A i j = F (cp i) (rp j)) : sm (fun i => cofM A 4 i 2) 4 = kerR F 4 cp rp 2 := by
  rw [sm_4, cof_4_0_2, cof_4_1_2, cof_4_2_2, cof_4_3_2, kerRc_4_2]
  simp only [hA]
  grind
theorem cofC_4_2 {F A : Int → Int → Int} {cp rp : Int → Int} (hA : ∀ i j, A i j = F (cp i) (rp j)) : sm (fun j => cofM A 4 2 j) 4 = kerC F 4 cp rp 2 := by
  rw [sm_4, cof_4_2_0, cof_4_2_1, cof_4_2_2, cof_4_2_3, kerCc_4_2]
  simp only [hA]
  grind
theorem cofR_4_3 {F A : Int → Int → Int} {cp rp : Int → Int} (hA : ∀ i j, A i j = F (cp i) (rp j)) : sm (fun i => cofM A 4 i 3) 4 = kerR F 4 cp rp 3 := by
  rw [sm_4, cof_4_0_3, cof_4_1_3, cof_4_2_3, cof_4_3_3, kerRc_4_3]
  simp only [hA]
  grind
theorem cofC_4_3 {F A : Int → Int → Int} {cp rp : Int → Int} (hA : ∀ i j, A i j = F (cp i) (rp j)) : sm (fun j => cofM A 4 3 j) 4 = kerC F 4 cp rp 3 := by
  rw [sm_4, cof_4_3_0, cof_4_3_1, cof_4_3_2, cof_4_3_3, kerCc_4_3]
  simp only [hA]
  grind
theorem cofD_4 {F A : Int → Int → Int} {cp rp : Int → Int} (hA : ∀ i j, A i j = F (cp i) (rp j)) : sm (fun j => A 0 j * cofM A 4 0 j) 4 = kerD F 4 cp rp := by
  rw [sm_4, cof_4_0_0, cof_4_0_1, cof_4_0_2, cof_4_0_3, kerD_4]
  unfold MD4
  simp only [hA]
  grind
theorem cofR {F A : Int → Int → Int} {cp rp : Int → Int} (hA : ∀ i j, A i j = F (cp i) (rp j)) {k j : Int} (k1 : 1 ≤ k) (k4 : k ≤ 4) (j0 : 0 ≤ j) (j1 : j < k) : sm (fun i => cofM A k i j) k = kerR F k cp rp j := by
  rcases (by omega : k = 1 ∨ k = 2 ∨ k = 3 ∨ k = 4) with e | e | e | e <;> subst e
  · have e : j = 0 := by omega
    subst e
    exact cofR_1_0 hA
  · rcases (by omega : j = 0 ∨ j = 1) with e | e <;> subst e
    · exact cofR_2_0 hA
    · exact cofR_2_1 hA
  · rcases (by omega : j = 0 ∨ j = 1 ∨ j = 2) with e | e | e <;> subst e
    · exact cofR_3_0 hA
    · exact cofR_3_1 hA
    · exact cofR_3_2 hA
  · rcases (by omega : j = 0 ∨ j = 1 ∨ j = 2 ∨ j = 3) with e | e | e | e <;> subst e
    · exact cofR_4_0 hA
    · exact cofR_4_1 hA
    · exact cofR_4_2 hA
    · exact cofR_4_3 hA
theorem cofC {F A : Int → Int → Int} {cp rp : Int → Int} (hA : ∀ i j, A i j = F (cp i) (rp j)) {k j : Int} (k1 : 1 ≤ k) (k4 : k ≤ 4) (j0 : 0 ≤ j) (j1 : j < k) : sm (fun i => cofM A k j i) k = kerC F k cp rp j := by
  rcases (by omega : k = 1 ∨ k = 2 ∨ k = 3 ∨ k = 4) with e | e | e | e <;> subst e
  · have e : j = 0 := by omega
    subst e
    exact cofC_1_0 hA
  · rcases (by omega : j = 0 ∨ j = 1) with e | e <;> subst e
    · exact cofC_2_0 hA
    · exact cofC_2_1 hA
  · rcases (by omega : j = 0 ∨ j = 1 ∨ j = 2) with e | e | e <;> subst e
    · exact cofC_3_0 hA
    · exact cofC_3_1 hA
    · exact cofC_3_2 hA
  · rcases (by omega : j = 0 ∨ j = 1 ∨ j = 2 ∨ j = 3) with e | e | e | e <;> subst e
    · exact cofC_4_0 hA
    · exact cofC_4_1 hA
    · exact cofC_4_2 hA
    · exact cofC_4_3 hA
theorem cofD {F A : Int → Int → Int} {cp rp : Int → Int} (hA : ∀ i j, A i j = F (cp i) (rp j)) {k : Int} (k1 : 1 ≤ k) (k4 : k ≤ 4) : sm (fun j => A 0 j * cofM A k 0 j) k = kerD F k cp rp := by
  rcases (by omega : k = 1 ∨ k = 2 ∨ k = 3 ∨ k = 4) with e | e | e | e <;> subst e
  · exact cofD_1 hA
  · exact cofD_2 hA
  · exact cofD_3 hA
  · exact cofD_4 hA
theorem smv_bd {f x : Int → Int} {k B : Int} (k0 : 0 ≤ k) (k4 : k ≤ 4) (hB : 0 ≤ B) (hf : ∀ i, 0 ≤ i → i < k → 0 ≤ f i ∧ f i ≤ 560) (hx : ∀ i, 0 ≤ i → i < k → -B ≤ x i ∧ x i ≤ B) : -(4 * (560 * B)) ≤ sm (fun i => f i * x i) k ∧ sm (fun i => f i * x i) k ≤ 4 * (560 * B) := by
  have h := sm_bd (f := fun i => f i * x i) (n := k) (c := -(560 * B)) (d := 560 * B) (fun i i0 i1 => by
    have a := hf i i0 i1
    have b := hx i i0 i1
    exact am (by omega) a.2 b.1 b.2) k0
  have h1 : k * (560 * B) ≤ 4 * (560 * B) := Int.mul_le_mul_of_nonneg_right k4 (by omega)
  have h2 : k * -(560 * B) = -(k * (560 * B)) := Int.mul_neg _ _
  omega
def GoodM (μ : Mem) : Prop := Good (Fk μ) (μ 201 14) (μ 201 19) (μ 201 22) (μ 211) (μ 212)
def sgM (μ : Mem) : Int := sgn (kerS (Fk μ) (μ 201 22) (μ 211) (μ 212))
def P_X11_isGood (o : Int) (μ : Mem) : Prop := o = 201 ∧ KB μ
def Q_X11_isGood (_ : Int) (μ μ' : Mem) (r : Int) : Prop := ((r = 1 ∧ GoodM μ ∧ μ' 201 27 = sgM μ * kerD (Fk μ) (μ 201 22) (μ 211) (μ 212) ∧ μ' 201 28 = sgM μ * kerS (Fk μ) (μ 201 22) (μ 211) (μ 212) ∧ ∀ i : Int, 0 ≤ i → i < μ 201 22 → μ' 213 i = sgM μ * kerC (Fk μ) (μ 201 22) (μ 211) (μ 212) i ∧ μ' 214 i = sgM μ * kerR (Fk μ) (μ 201 22) (μ 211) (μ 212) i) ∨ (r = 0 ∧ ¬ GoodM μ)) ∧
  (∀ f : Int, f ≠ 27 → f ≠ 28 → μ' 201 f = μ 201 f) ∧ ∀ z : Int, z ≠ 201 → z ≠ 213 → z ≠ 214 → μ' z = μ z
def S_X11_isGood : S0t := fun as μ Q => match as with
  | [(2, x0)] => P_X11_isGood x0 μ ∧ ∀ (μ' : Mem) (r : Int), Q_X11_isGood x0 μ μ' r → Q μ' (some (kI r))
  | _ => False
theorem mono_X11_isGood : Mono S_X11_isGood := by
  intro as μ Q Q' h hS
  unfold S_X11_isGood at hS ⊢
  split at hS
  · exact ⟨hS.1, fun μ' r q => h _ _ (hS.2 _ _ q)⟩
  · exact hS.elim
def iX11_isGood : Inf := (kX11_isGood, fTX11, pTX11, cTX11, lTX11, sTX11, [(303, 0, 0, 11, S_X11_turns), (300, 0, 2, 11, S_X11_cofactor), (283, 0, 2, 11, S_X11_at)])
theorem ok_X11_isGood : infOK iX11_isGood mX11_isGood RX11 3 76 := ⟨kkX11_isGood, fTX11_ok, pTX11_ok _, cTX11_ok, lTX11_ok, sTX11_ok, c_cons ⟨mX11_turns, 0, 0, ct_X11_turns, mmX11_turns, vvX11_turns, lkX11_303, ⟨by decide, by decide⟩, ⟨_, _, rfl⟩, by decide, mono_X11_turns⟩ (c_cons ⟨mX11_cofactor, 2, 51, ct_X11_cofactor, mmX11_cofactor, vvX11_cofactor, lkX11_300, ⟨by decide, by decide⟩, ⟨_, _, rfl⟩, by decide, mono_X11_cofactor⟩ (c_cons ⟨mX11_at, 0, 0, ct_X11_at, mmX11_at, vvX11_at, lkX11_283, ⟨by decide, by decide⟩, ⟨_, _, rfl⟩, by decide, mono_X11_at⟩ (c_nil)))⟩
theorem mt_X11_isGood : mtOK [] RX11 3 76 := mt_nil
abbrev V_X11_isGood (R : Mem → Option AV → Prop) (pc : Nat) (lc : List (Nat × AV)) (μ : Mem) : Prop := VM mX11_isGood RX11 3 76 R pc lc [] μ
set_option maxRecDepth 20000 in
theorem vc_X11_isGood_0 {R : Mem → Option AV → Prop} {μ : Mem} (H : V_X11_isGood R 5 [(0, kR 201)] (updm μ 201 27 0)) : V_X11_isGood R 0 [(0, kR 201)] μ := by
  refine vm_step2 mt_X11_isGood ok_X11_isGood [(5, [0]), (10, [0]), (12, [0, 1]), (27, [0, 1]), (34, [0, 1]), (42, [0, 1]), (52, [0, 1, 2]), (77, [0, 1, 2, 3]), (87, [0, 1, 2, 3]), (97, [0, 1, 2, 3]), (122, [0, 1, 2]), (158, [0]), (162, [0, 1, 2]), (210, [0, 1, 2]), (227, [0, 2, 3, 5]), (294, [0, 1, 2]), (311, [0, 2, 3, 5])] 1000 ?_
  show isC 201 11 ∧ 1 = 1 ∧ True ∧ V_X11_isGood R 5 [(0, kR 201)] (updm μ 201 27 0)
  exact ⟨c_201, rfl, trivial, H⟩
set_option maxRecDepth 20000 in
theorem vc_X11_isGood_5 {R : Mem → Option AV → Prop} {μ : Mem} (H : V_X11_isGood R 10 [(0, kR 201)] (updm μ 201 28 0)) : V_X11_isGood R 5 [(0, kR 201)] μ := by
  refine vm_step2 mt_X11_isGood ok_X11_isGood [(5, [0]), (10, [0]), (12, [0, 1]), (27, [0, 1]), (34, [0, 1]), (42, [0, 1]), (52, [0, 1, 2]), (77, [0, 1, 2, 3]), (87, [0, 1, 2, 3]), (97, [0, 1, 2, 3]), (122, [0, 1, 2]), (158, [0]), (162, [0, 1, 2]), (210, [0, 1, 2]), (227, [0, 2, 3, 5]), (294, [0, 1, 2]), (311, [0, 2, 3, 5])] 1000 ?_
  show isC 201 11 ∧ 1 = 1 ∧ True ∧ V_X11_isGood R 10 [(0, kR 201)] (updm μ 201 28 0)
  exact ⟨c_201, rfl, trivial, H⟩
set_option maxRecDepth 20000 in
theorem vc_X11_isGood_10 {R : Mem → Option AV → Prop} {μ : Mem} (H : V_X11_isGood R 12 [(0, kR 201), (1, kI 0)] μ) : V_X11_isGood R 10 [(0, kR 201)] μ := by
  refine vm_step2 mt_X11_isGood ok_X11_isGood [(5, [0]), (10, [0]), (12, [0, 1]), (27, [0, 1]), (34, [0, 1]), (42, [0, 1]), (52, [0, 1, 2]), (77, [0, 1, 2, 3]), (87, [0, 1, 2, 3]), (97, [0, 1, 2, 3]), (122, [0, 1, 2]), (158, [0]), (162, [0, 1, 2]), (210, [0, 1, 2]), (227, [0, 2, 3, 5]), (294, [0, 1, 2]), (311, [0, 2, 3, 5])] 1000 ?_
  show V_X11_isGood R 12 [(0, kR 201), (1, kI 0)] μ
  exact H
set_option maxRecDepth 20000 in
theorem vc_X11_isGood_12 {R : Mem → Option AV → Prop} {i : Int} {μ : Mem} (H : r32 i ∧ r32 (μ 201 22) ∧ (((μ 201 22) ≤ i) → V_X11_isGood R 42 [(0, kR 201), (1, kI 0)] μ) ∧ (¬ ((μ 201 22) ≤ i) → (0 ≤ i ∧ i < 4) ∧ V_X11_isGood R 27 [(0, kR 201), (1, kI i)] (updm μ 213 i 0))) : V_X11_isGood R 12 [(0, kR 201), (1, kI i)] μ := by
  refine vm_step2 mt_X11_isGood ok_X11_isGood [(5, [0]), (10, [0]), (12, [0, 1]), (27, [0, 1]), (34, [0, 1]), (42, [0, 1]), (52, [0, 1, 2]), (77, [0, 1, 2, 3]), (87, [0, 1, 2, 3]), (97, [0, 1, 2, 3]), (122, [0, 1, 2]), (158, [0]), (162, [0, 1, 2]), (210, [0, 1, 2]), (227, [0, 2, 3, 5]), (294, [0, 1, 2]), (311, [0, 2, 3, 5])] 1000 ?_
  show isC 201 11 ∧ (r32 i ∧ r32 (μ 201 22)) ∧ (((μ 201 22) ≤ i) → V_X11_isGood R 42 [(0, kR 201), (1, kI 0)] μ) ∧ (¬ ((μ 201 22) ≤ i) → isC 201 11 ∧ inA 213 1 i ∧ V_X11_isGood R 27 [(0, kR 201), (1, kI i)] (updm μ 213 i 0))
  exact ⟨c_201, ⟨⟨H.1, H.2.1⟩, fun hc1 => (H.2.2.1 hc1), fun hc1 => ⟨c_201, ⟨isArr.in a_213 (H.2.2.2 hc1).1.1 (H.2.2.2 hc1).1.2, (H.2.2.2 hc1).2⟩⟩⟩⟩
set_option maxRecDepth 20000 in
theorem vc_X11_isGood_27 {R : Mem → Option AV → Prop} {i : Int} {μ : Mem} (H : (0 ≤ i ∧ i < 4) ∧ V_X11_isGood R 34 [(0, kR 201), (1, kI i)] (updm μ 214 i 0)) : V_X11_isGood R 27 [(0, kR 201), (1, kI i)] μ := by
  refine vm_step2 mt_X11_isGood ok_X11_isGood [(5, [0]), (10, [0]), (12, [0, 1]), (27, [0, 1]), (34, [0, 1]), (42, [0, 1]), (52, [0, 1, 2]), (77, [0, 1, 2, 3]), (87, [0, 1, 2, 3]), (97, [0, 1, 2, 3]), (122, [0, 1, 2]), (158, [0]), (162, [0, 1, 2]), (210, [0, 1, 2]), (227, [0, 2, 3, 5]), (294, [0, 1, 2]), (311, [0, 2, 3, 5])] 1000 ?_
  show isC 201 11 ∧ inA 214 1 i ∧ V_X11_isGood R 34 [(0, kR 201), (1, kI i)] (updm μ 214 i 0)
  exact ⟨c_201, ⟨isArr.in a_214 H.1.1 H.1.2, H.2⟩⟩
set_option maxRecDepth 20000 in
theorem vc_X11_isGood_34 {R : Mem → Option AV → Prop} {i : Int} {μ : Mem} (H : V_X11_isGood R 12 [(0, kR 201), (1, kI (i + 1))] μ) : V_X11_isGood R 34 [(0, kR 201), (1, kI i)] μ := by
  refine vm_step2 mt_X11_isGood ok_X11_isGood [(5, [0]), (10, [0]), (12, [0, 1]), (27, [0, 1]), (34, [0, 1]), (42, [0, 1]), (52, [0, 1, 2]), (77, [0, 1, 2, 3]), (87, [0, 1, 2, 3]), (97, [0, 1, 2, 3]), (122, [0, 1, 2]), (158, [0]), (162, [0, 1, 2]), (210, [0, 1, 2]), (227, [0, 2, 3, 5]), (294, [0, 1, 2]), (311, [0, 2, 3, 5])] 1000 ?_
  show V_X11_isGood R 12 [(0, kR 201), (1, kI (i + 1))] μ
  exact H
set_option maxRecDepth 20000 in
theorem vc_X11_isGood_42 {R : Mem → Option AV → Prop} {i : Int} {μ : Mem} (H : r32 i ∧ r32 (μ 201 22) ∧ (((μ 201 22) ≤ i) → r64 (μ 201 28) ∧ ((¬ (μ 201 28) = (0 : Int)) → r64 (μ 201 28) ∧ (((0 : Int) ≤ (μ 201 28)) → V_X11_isGood R 158 [(0, kR 201)] μ) ∧ (¬ ((0 : Int) ≤ (μ 201 28)) → P_X11_turns 201 μ ∧ (∀ (μ2 : Mem), Q_X11_turns 201 μ μ2 → V_X11_isGood R 158 [(0, kR 201)] μ2))) ∧ (¬ (¬ (μ 201 28) = (0 : Int)) → R μ (some (kI 0)))) ∧ (¬ ((μ 201 22) ≤ i) → V_X11_isGood R 52 [(0, kR 201), (1, kI i), (2, kI 0)] μ)) : V_X11_isGood R 42 [(0, kR 201), (1, kI i)] μ := by
  refine vm_step2 mt_X11_isGood ok_X11_isGood [(5, [0]), (10, [0]), (12, [0, 1]), (27, [0, 1]), (34, [0, 1]), (42, [0, 1]), (52, [0, 1, 2]), (77, [0, 1, 2, 3]), (87, [0, 1, 2, 3]), (97, [0, 1, 2, 3]), (122, [0, 1, 2]), (158, [0]), (162, [0, 1, 2]), (210, [0, 1, 2]), (227, [0, 2, 3, 5]), (294, [0, 1, 2]), (311, [0, 2, 3, 5])] 1000 ?_
  show isC 201 11 ∧ (r32 i ∧ r32 (μ 201 22)) ∧ (((μ 201 22) ≤ i) → isC 201 11 ∧ (r64 (μ 201 28) ∧ r64 (0 : Int)) ∧ r32 (lcm3 (μ 201 28) (0 : Int)) ∧ ((¬ lcm3 (μ 201 28) (0 : Int) = 0) → isC 201 11 ∧ (r64 (μ 201 28) ∧ r64 (0 : Int)) ∧ r32 (lcm3 (μ 201 28) (0 : Int)) ∧ ((0 ≤ lcm3 (μ 201 28) (0 : Int)) → V_X11_isGood R 158 [(0, kR 201)] μ) ∧ (¬ (0 ≤ lcm3 (μ 201 28) (0 : Int)) → isC 201 11 ∧ P_X11_turns 201 μ ∧ (∀ (μ2 : Mem), Q_X11_turns 201 μ μ2 → V_X11_isGood R 158 [(0, kR 201)] μ2))) ∧ (¬ (¬ lcm3 (μ 201 28) (0 : Int) = 0) → (0 ≤ (0 : Int) ∧ (0 : Int) ≤ 1) ∧ R μ (some (kI 0)))) ∧ (¬ ((μ 201 22) ≤ i) → V_X11_isGood R 52 [(0, kR 201), (1, kI i), (2, kI 0)] μ)
  exact ⟨c_201, ⟨⟨H.1, H.2.1⟩, fun hc7 => ⟨c_201, ⟨⟨(H.2.2.1 hc7).1, by unfold r64; omega⟩, lcm3_r _ _, fun hc6 => ⟨c_201, ⟨⟨((H.2.2.1 hc7).2.1 (lcm_ne.mp hc6)).1, by unfold r64; omega⟩, lcm3_r _ _, fun hc5 => (((H.2.2.1 hc7).2.1 (lcm_ne.mp hc6)).2.1 (lcm_ge.mp hc5)), fun hc5 => ⟨c_201, (((H.2.2.1 hc7).2.1 (lcm_ne.mp hc6)).2.2 (fun q => hc5 (lcm_ge.mpr q))).1, fun μ2 hq4 => ((((H.2.2.1 hc7).2.1 (lcm_ne.mp hc6)).2.2 (fun q => hc5 (lcm_ge.mpr q))).2 μ2 hq4)⟩⟩⟩, fun hc6 => ⟨⟨by omega, by omega⟩, ((H.2.2.1 hc7).2.2 (fun q => hc6 (lcm_ne.mpr q)))⟩⟩⟩, fun hc7 => (H.2.2.2 hc7)⟩⟩
set_option maxRecDepth 20000 in
theorem vc_X11_isGood_52 {R : Mem → Option AV → Prop} {i j : Int} {μ : Mem} (H : r32 j ∧ r32 (μ 201 22) ∧ (((μ 201 22) ≤ j) → V_X11_isGood R 42 [(0, kR 201), (1, kI (i + 1))] μ) ∧ (¬ ((μ 201 22) ≤ j) → P_X11_cofactor 201 i j μ ∧ (0 ≤ i ∧ i < 4) ∧ (0 ≤ i ∧ i < 4) ∧ V_X11_isGood R 77 [(0, kR 201), (1, kI i), (2, kI j), (3, kL (F_X11_cofactor 201 i j μ))] (updm μ 213 i ((μ 213 i) + (F_X11_cofactor 201 i j μ))))) : V_X11_isGood R 52 [(0, kR 201), (1, kI i), (2, kI j)] μ := by
  refine vm_step2 mt_X11_isGood ok_X11_isGood [(5, [0]), (10, [0]), (12, [0, 1]), (27, [0, 1]), (34, [0, 1]), (42, [0, 1]), (52, [0, 1, 2]), (77, [0, 1, 2, 3]), (87, [0, 1, 2, 3]), (97, [0, 1, 2, 3]), (122, [0, 1, 2]), (158, [0]), (162, [0, 1, 2]), (210, [0, 1, 2]), (227, [0, 2, 3, 5]), (294, [0, 1, 2]), (311, [0, 2, 3, 5])] 1000 ?_
  show isC 201 11 ∧ (r32 j ∧ r32 (μ 201 22)) ∧ (((μ 201 22) ≤ j) → V_X11_isGood R 42 [(0, kR 201), (1, kI (i + 1))] μ) ∧ (¬ ((μ 201 22) ≤ j) → isC 201 11 ∧ P_X11_cofactor 201 i j μ ∧ isC 201 11 ∧ inA 213 1 i ∧ inA 213 1 i ∧ V_X11_isGood R 77 [(0, kR 201), (1, kI i), (2, kI j), (3, kL (F_X11_cofactor 201 i j μ))] (updm μ 213 i ((μ 213 i) + (F_X11_cofactor 201 i j μ))))
  exact ⟨c_201, ⟨⟨H.1, H.2.1⟩, fun hc8 => (H.2.2.1 hc8), fun hc8 => ⟨c_201, (H.2.2.2 hc8).1, ⟨c_201, ⟨isArr.in a_213 (H.2.2.2 hc8).2.1.1 (H.2.2.2 hc8).2.1.2, ⟨isArr.in a_213 (H.2.2.2 hc8).2.2.1.1 (H.2.2.2 hc8).2.2.1.2, (H.2.2.2 hc8).2.2.2⟩⟩⟩⟩⟩⟩
set_option maxRecDepth 20000 in
theorem vc_X11_isGood_77 {R : Mem → Option AV → Prop} {i j v : Int} {μ : Mem} (H : (0 ≤ j ∧ j < 4) ∧ (0 ≤ j ∧ j < 4) ∧ V_X11_isGood R 87 [(0, kR 201), (1, kI i), (2, kI j), (3, kL v)] (updm μ 214 j ((μ 214 j) + v))) : V_X11_isGood R 77 [(0, kR 201), (1, kI i), (2, kI j), (3, kL v)] μ := by
  refine vm_step2 mt_X11_isGood ok_X11_isGood [(5, [0]), (10, [0]), (12, [0, 1]), (27, [0, 1]), (34, [0, 1]), (42, [0, 1]), (52, [0, 1, 2]), (77, [0, 1, 2, 3]), (87, [0, 1, 2, 3]), (97, [0, 1, 2, 3]), (122, [0, 1, 2]), (158, [0]), (162, [0, 1, 2]), (210, [0, 1, 2]), (227, [0, 2, 3, 5]), (294, [0, 1, 2]), (311, [0, 2, 3, 5])] 1000 ?_
  show isC 201 11 ∧ inA 214 1 j ∧ inA 214 1 j ∧ V_X11_isGood R 87 [(0, kR 201), (1, kI i), (2, kI j), (3, kL v)] (updm μ 214 j ((μ 214 j) + v))
  exact ⟨c_201, ⟨isArr.in a_214 H.1.1 H.1.2, ⟨isArr.in a_214 H.2.1.1 H.2.1.2, H.2.2⟩⟩⟩
set_option maxRecDepth 20000 in
theorem vc_X11_isGood_87 {R : Mem → Option AV → Prop} {i j v : Int} {μ : Mem} (H : V_X11_isGood R 97 [(0, kR 201), (1, kI i), (2, kI j), (3, kL v)] (updm μ 201 28 ((μ 201 28) + v))) : V_X11_isGood R 87 [(0, kR 201), (1, kI i), (2, kI j), (3, kL v)] μ := by
  refine vm_step2 mt_X11_isGood ok_X11_isGood [(5, [0]), (10, [0]), (12, [0, 1]), (27, [0, 1]), (34, [0, 1]), (42, [0, 1]), (52, [0, 1, 2]), (77, [0, 1, 2, 3]), (87, [0, 1, 2, 3]), (97, [0, 1, 2, 3]), (122, [0, 1, 2]), (158, [0]), (162, [0, 1, 2]), (210, [0, 1, 2]), (227, [0, 2, 3, 5]), (294, [0, 1, 2]), (311, [0, 2, 3, 5])] 1000 ?_
  show isC 201 11 ∧ isC 201 11 ∧ 1 = 1 ∧ True ∧ V_X11_isGood R 97 [(0, kR 201), (1, kI i), (2, kI j), (3, kL v)] (updm μ 201 28 ((μ 201 28) + v))
  exact ⟨c_201, ⟨c_201, rfl, trivial, H⟩⟩
set_option maxRecDepth 20000 in
theorem vc_X11_isGood_97 {R : Mem → Option AV → Prop} {i j v : Int} {μ : Mem} (H : r32 i ∧ ((¬ i = 0) → V_X11_isGood R 122 [(0, kR 201), (1, kI i), (2, kI j)] (updm μ 201 27 ((μ 201 27) + 0))) ∧ (¬ (¬ i = 0) → P_X11_at 201 0 j μ ∧ V_X11_isGood R 122 [(0, kR 201), (1, kI i), (2, kI j)] (updm μ 201 27 ((μ 201 27) + ((F_X11_at 201 0 j μ) * v))))) : V_X11_isGood R 97 [(0, kR 201), (1, kI i), (2, kI j), (3, kL v)] μ := by
  refine vm_step2 mt_X11_isGood ok_X11_isGood [(5, [0]), (10, [0]), (12, [0, 1]), (27, [0, 1]), (34, [0, 1]), (42, [0, 1]), (52, [0, 1, 2]), (77, [0, 1, 2, 3]), (87, [0, 1, 2, 3]), (97, [0, 1, 2, 3]), (122, [0, 1, 2]), (158, [0]), (162, [0, 1, 2]), (210, [0, 1, 2]), (227, [0, 2, 3, 5]), (294, [0, 1, 2]), (311, [0, 2, 3, 5])] 1000 ?_
  show isC 201 11 ∧ r32 i ∧ ((¬ i = 0) → isC 201 11 ∧ 1 = 1 ∧ True ∧ V_X11_isGood R 122 [(0, kR 201), (1, kI i), (2, kI j)] (updm μ 201 27 ((μ 201 27) + 0))) ∧ (¬ (¬ i = 0) → isC 201 11 ∧ P_X11_at 201 0 j μ ∧ isC 201 11 ∧ 1 = 1 ∧ True ∧ V_X11_isGood R 122 [(0, kR 201), (1, kI i), (2, kI j)] (updm μ 201 27 ((μ 201 27) + ((F_X11_at 201 0 j μ) * v))))
  exact ⟨c_201, ⟨H.1, fun hc9 => ⟨c_201, rfl, trivial, (H.2.1 hc9)⟩, fun hc9 => ⟨c_201, (H.2.2 hc9).1, ⟨c_201, rfl, trivial, (H.2.2 hc9).2⟩⟩⟩⟩
set_option maxRecDepth 20000 in
theorem vc_X11_isGood_122 {R : Mem → Option AV → Prop} {i j : Int} {μ : Mem} (H : V_X11_isGood R 52 [(0, kR 201), (1, kI i), (2, kI (j + 1))] μ) : V_X11_isGood R 122 [(0, kR 201), (1, kI i), (2, kI j)] μ := by
  refine vm_step2 mt_X11_isGood ok_X11_isGood [(5, [0]), (10, [0]), (12, [0, 1]), (27, [0, 1]), (34, [0, 1]), (42, [0, 1]), (52, [0, 1, 2]), (77, [0, 1, 2, 3]), (87, [0, 1, 2, 3]), (97, [0, 1, 2, 3]), (122, [0, 1, 2]), (158, [0]), (162, [0, 1, 2]), (210, [0, 1, 2]), (227, [0, 2, 3, 5]), (294, [0, 1, 2]), (311, [0, 2, 3, 5])] 1000 ?_
  show V_X11_isGood R 52 [(0, kR 201), (1, kI i), (2, kI (j + 1))] μ
  exact H
set_option maxRecDepth 20000 in
theorem vc_X11_isGood_158 {R : Mem → Option AV → Prop} {μ : Mem} (H : V_X11_isGood R 162 [(0, kR 201), (1, kI 1), (2, kI 0)] μ) : V_X11_isGood R 158 [(0, kR 201)] μ := by
  refine vm_step2 mt_X11_isGood ok_X11_isGood [(5, [0]), (10, [0]), (12, [0, 1]), (27, [0, 1]), (34, [0, 1]), (42, [0, 1]), (52, [0, 1, 2]), (77, [0, 1, 2, 3]), (87, [0, 1, 2, 3]), (97, [0, 1, 2, 3]), (122, [0, 1, 2]), (158, [0]), (162, [0, 1, 2]), (210, [0, 1, 2]), (227, [0, 2, 3, 5]), (294, [0, 1, 2]), (311, [0, 2, 3, 5])] 1000 ?_
  show V_X11_isGood R 162 [(0, kR 201), (1, kI 1), (2, kI 0)] μ
  exact H
set_option maxRecDepth 20000 in
theorem vc_X11_isGood_162 {R : Mem → Option AV → Prop} {i j : Int} {μ : Mem} (H : r32 j ∧ r32 (μ 201 22) ∧ (((μ 201 22) ≤ j) → V_X11_isGood R 210 [(0, kR 201), (1, kI i), (2, kI 0)] μ) ∧ (¬ ((μ 201 22) ≤ j) → r32 i ∧ ((i = 0) → V_X11_isGood R 162 [(0, kR 201), (1, kI 0), (2, kI (j + 1))] μ) ∧ (¬ (i = 0) → (0 ≤ j ∧ j < 4) ∧ r64 (μ 213 j) ∧ (((μ 213 j) < (0 : Int)) → V_X11_isGood R 162 [(0, kR 201), (1, kI 0), (2, kI (j + 1))] μ) ∧ (¬ ((μ 213 j) < (0 : Int)) → (0 ≤ j ∧ j < 4) ∧ r64 (μ 214 j) ∧ (((μ 214 j) < (0 : Int)) → V_X11_isGood R 162 [(0, kR 201), (1, kI 0), (2, kI (j + 1))] μ) ∧ (¬ ((μ 214 j) < (0 : Int)) → V_X11_isGood R 162 [(0, kR 201), (1, kI 1), (2, kI (j + 1))] μ))))) : V_X11_isGood R 162 [(0, kR 201), (1, kI i), (2, kI j)] μ := by
  refine vm_step2 mt_X11_isGood ok_X11_isGood [(5, [0]), (10, [0]), (12, [0, 1]), (27, [0, 1]), (34, [0, 1]), (42, [0, 1]), (52, [0, 1, 2]), (77, [0, 1, 2, 3]), (87, [0, 1, 2, 3]), (97, [0, 1, 2, 3]), (122, [0, 1, 2]), (158, [0]), (162, [0, 1, 2]), (210, [0, 1, 2]), (227, [0, 2, 3, 5]), (294, [0, 1, 2]), (311, [0, 2, 3, 5])] 1000 ?_
  show isC 201 11 ∧ (r32 j ∧ r32 (μ 201 22)) ∧ (((μ 201 22) ≤ j) → V_X11_isGood R 210 [(0, kR 201), (1, kI i), (2, kI 0)] μ) ∧ (¬ ((μ 201 22) ≤ j) → r32 i ∧ ((i = 0) → V_X11_isGood R 162 [(0, kR 201), (1, kI 0), (2, kI (j + 1))] μ) ∧ (¬ (i = 0) → isC 201 11 ∧ inA 213 1 j ∧ (r64 (μ 213 j) ∧ r64 (0 : Int)) ∧ r32 (lcm3 (μ 213 j) (0 : Int)) ∧ ((lcm3 (μ 213 j) (0 : Int) < 0) → V_X11_isGood R 162 [(0, kR 201), (1, kI 0), (2, kI (j + 1))] μ) ∧ (¬ (lcm3 (μ 213 j) (0 : Int) < 0) → isC 201 11 ∧ inA 214 1 j ∧ (r64 (μ 214 j) ∧ r64 (0 : Int)) ∧ r32 (lcm3 (μ 214 j) (0 : Int)) ∧ ((lcm3 (μ 214 j) (0 : Int) < 0) → V_X11_isGood R 162 [(0, kR 201), (1, kI 0), (2, kI (j + 1))] μ) ∧ (¬ (lcm3 (μ 214 j) (0 : Int) < 0) → V_X11_isGood R 162 [(0, kR 201), (1, kI 1), (2, kI (j + 1))] μ))))
  exact ⟨c_201, ⟨⟨H.1, H.2.1⟩, fun hc13 => (H.2.2.1 hc13), fun hc13 => ⟨(H.2.2.2 hc13).1, fun hc12 => ((H.2.2.2 hc13).2.1 hc12), fun hc12 => ⟨c_201, ⟨isArr.in a_213 ((H.2.2.2 hc13).2.2 hc12).1.1 ((H.2.2.2 hc13).2.2 hc12).1.2, ⟨⟨((H.2.2.2 hc13).2.2 hc12).2.1, by unfold r64; omega⟩, lcm3_r _ _, fun hc11 => (((H.2.2.2 hc13).2.2 hc12).2.2.1 (lcm_lt.mp hc11)), fun hc11 => ⟨c_201, ⟨isArr.in a_214 (((H.2.2.2 hc13).2.2 hc12).2.2.2 (fun q => hc11 (lcm_lt.mpr q))).1.1 (((H.2.2.2 hc13).2.2 hc12).2.2.2 (fun q => hc11 (lcm_lt.mpr q))).1.2, ⟨⟨(((H.2.2.2 hc13).2.2 hc12).2.2.2 (fun q => hc11 (lcm_lt.mpr q))).2.1, by unfold r64; omega⟩, lcm3_r _ _, fun hc10 => ((((H.2.2.2 hc13).2.2 hc12).2.2.2 (fun q => hc11 (lcm_lt.mpr q))).2.2.1 (lcm_lt.mp hc10)), fun hc10 => ((((H.2.2.2 hc13).2.2 hc12).2.2.2 (fun q => hc11 (lcm_lt.mpr q))).2.2.2 (fun q => hc10 (lcm_lt.mpr q)))⟩⟩⟩⟩⟩⟩⟩⟩⟩
set_option maxRecDepth 20000 in
theorem vc_X11_isGood_210 {R : Mem → Option AV → Prop} {i j : Int} {μ : Mem} (H : r32 j ∧ r32 (μ 201 14) ∧ (((μ 201 14) ≤ j) → V_X11_isGood R 294 [(0, kR 201), (1, kI i), (2, kI 0)] μ) ∧ (¬ ((μ 201 14) ≤ j) → r32 i ∧ ((i = 0) → V_X11_isGood R 294 [(0, kR 201), (1, kI i), (2, kI 0)] μ) ∧ (¬ (i = 0) → V_X11_isGood R 227 [(0, kR 201), (2, kI j), (3, kL 0), (5, kI 0)] μ))) : V_X11_isGood R 210 [(0, kR 201), (1, kI i), (2, kI j)] μ := by
  refine vm_step2 mt_X11_isGood ok_X11_isGood [(5, [0]), (10, [0]), (12, [0, 1]), (27, [0, 1]), (34, [0, 1]), (42, [0, 1]), (52, [0, 1, 2]), (77, [0, 1, 2, 3]), (87, [0, 1, 2, 3]), (97, [0, 1, 2, 3]), (122, [0, 1, 2]), (158, [0]), (162, [0, 1, 2]), (210, [0, 1, 2]), (227, [0, 2, 3, 5]), (294, [0, 1, 2]), (311, [0, 2, 3, 5])] 1000 ?_
  show isC 201 11 ∧ (r32 j ∧ r32 (μ 201 14)) ∧ (((μ 201 14) ≤ j) → V_X11_isGood R 294 [(0, kR 201), (1, kI i), (2, kI 0)] μ) ∧ (¬ ((μ 201 14) ≤ j) → r32 i ∧ ((i = 0) → V_X11_isGood R 294 [(0, kR 201), (1, kI i), (2, kI 0)] μ) ∧ (¬ (i = 0) → V_X11_isGood R 227 [(0, kR 201), (2, kI j), (3, kL 0), (5, kI 0)] μ))
  exact ⟨c_201, ⟨⟨H.1, H.2.1⟩, fun hc15 => (H.2.2.1 hc15), fun hc15 => ⟨(H.2.2.2 hc15).1, fun hc14 => ((H.2.2.2 hc15).2.1 hc14), fun hc14 => ((H.2.2.2 hc15).2.2 hc14)⟩⟩⟩
set_option maxRecDepth 20000 in
theorem vc_X11_isGood_227 {R : Mem → Option AV → Prop} {j v v5 : Int} {μ : Mem} (H : r32 v5 ∧ r32 (μ 201 22) ∧ (((μ 201 22) ≤ v5) → r64 v ∧ r64 (μ 201 27) ∧ (((μ 201 27) < v) → V_X11_isGood R 210 [(0, kR 201), (1, kI 0), (2, kI (j + 1))] μ) ∧ (¬ ((μ 201 27) < v) → V_X11_isGood R 210 [(0, kR 201), (1, kI 1), (2, kI (j + 1))] μ)) ∧ (¬ ((μ 201 22) ≤ v5) → (0 ≤ v5 ∧ v5 < 4) ∧ (0 ≤ ((24 * j) + (μ 212 v5)) ∧ ((24 * j) + (μ 212 v5)) < 96) ∧ r32 (μ 209 ((24 * j) + (μ 212 v5))) ∧ (0 ≤ v5 ∧ v5 < 4) ∧ V_X11_isGood R 227 [(0, kR 201), (2, kI j), (3, kL (v + ((μ 209 ((24 * j) + (μ 212 v5))) * (μ 214 v5)))), (5, kI (v5 + 1))] μ)) : V_X11_isGood R 227 [(0, kR 201), (2, kI j), (3, kL v), (5, kI v5)] μ := by
  refine vm_step2 mt_X11_isGood ok_X11_isGood [(5, [0]), (10, [0]), (12, [0, 1]), (27, [0, 1]), (34, [0, 1]), (42, [0, 1]), (52, [0, 1, 2]), (77, [0, 1, 2, 3]), (87, [0, 1, 2, 3]), (97, [0, 1, 2, 3]), (122, [0, 1, 2]), (158, [0]), (162, [0, 1, 2]), (210, [0, 1, 2]), (227, [0, 2, 3, 5]), (294, [0, 1, 2]), (311, [0, 2, 3, 5])] 1000 ?_
  show isC 201 11 ∧ (r32 v5 ∧ r32 (μ 201 22)) ∧ (((μ 201 22) ≤ v5) → isC 201 11 ∧ (r64 v ∧ r64 (μ 201 27)) ∧ r32 (lcm3 v (μ 201 27)) ∧ ((0 < lcm3 v (μ 201 27)) → V_X11_isGood R 210 [(0, kR 201), (1, kI 0), (2, kI (j + 1))] μ) ∧ (¬ (0 < lcm3 v (μ 201 27)) → V_X11_isGood R 210 [(0, kR 201), (1, kI 1), (2, kI (j + 1))] μ)) ∧ (¬ ((μ 201 22) ≤ v5) → isC 201 11 ∧ isC 201 11 ∧ inA 212 0 v5 ∧ inA 209 0 ((24 * j) + (μ 212 v5)) ∧ r32 (μ 209 ((24 * j) + (μ 212 v5))) ∧ isC 201 11 ∧ inA 214 1 v5 ∧ V_X11_isGood R 227 [(0, kR 201), (2, kI j), (3, kL (v + ((μ 209 ((24 * j) + (μ 212 v5))) * (μ 214 v5)))), (5, kI (v5 + 1))] μ)
  exact ⟨c_201, ⟨⟨H.1, H.2.1⟩, fun hc17 => ⟨c_201, ⟨⟨(H.2.2.1 hc17).1, (H.2.2.1 hc17).2.1⟩, lcm3_r _ _, fun hc16 => ((H.2.2.1 hc17).2.2.1 (lcm_gt.mp hc16)), fun hc16 => ((H.2.2.1 hc17).2.2.2 (fun q => hc16 (lcm_gt.mpr q)))⟩⟩, fun hc17 => ⟨c_201, ⟨c_201, ⟨isArr.in a_212 (H.2.2.2 hc17).1.1 (H.2.2.2 hc17).1.2, ⟨isArr.in a_209 (H.2.2.2 hc17).2.1.1 (H.2.2.2 hc17).2.1.2, ⟨(H.2.2.2 hc17).2.2.1, ⟨c_201, ⟨isArr.in a_214 (H.2.2.2 hc17).2.2.2.1.1 (H.2.2.2 hc17).2.2.2.1.2, (H.2.2.2 hc17).2.2.2.2⟩⟩⟩⟩⟩⟩⟩⟩⟩
set_option maxRecDepth 20000 in
theorem vc_X11_isGood_294 {R : Mem → Option AV → Prop} {i j : Int} {μ : Mem} (H : r32 j ∧ r32 (μ 201 19) ∧ (((μ 201 19) ≤ j) → (0 ≤ i ∧ i ≤ 1) ∧ R μ (some (kI i))) ∧ (¬ ((μ 201 19) ≤ j) → r32 i ∧ ((i = 0) → (0 ≤ i ∧ i ≤ 1) ∧ R μ (some (kI i))) ∧ (¬ (i = 0) → V_X11_isGood R 311 [(0, kR 201), (2, kI j), (3, kL 0), (5, kI 0)] μ))) : V_X11_isGood R 294 [(0, kR 201), (1, kI i), (2, kI j)] μ := by
  refine vm_step2 mt_X11_isGood ok_X11_isGood [(5, [0]), (10, [0]), (12, [0, 1]), (27, [0, 1]), (34, [0, 1]), (42, [0, 1]), (52, [0, 1, 2]), (77, [0, 1, 2, 3]), (87, [0, 1, 2, 3]), (97, [0, 1, 2, 3]), (122, [0, 1, 2]), (158, [0]), (162, [0, 1, 2]), (210, [0, 1, 2]), (227, [0, 2, 3, 5]), (294, [0, 1, 2]), (311, [0, 2, 3, 5])] 1000 ?_
  show isC 201 11 ∧ (r32 j ∧ r32 (μ 201 19)) ∧ (((μ 201 19) ≤ j) → (0 ≤ i ∧ i ≤ 1) ∧ R μ (some (kI i))) ∧ (¬ ((μ 201 19) ≤ j) → r32 i ∧ ((i = 0) → (0 ≤ i ∧ i ≤ 1) ∧ R μ (some (kI i))) ∧ (¬ (i = 0) → V_X11_isGood R 311 [(0, kR 201), (2, kI j), (3, kL 0), (5, kI 0)] μ))
  exact ⟨c_201, ⟨⟨H.1, H.2.1⟩, fun hc19 => (H.2.2.1 hc19), fun hc19 => ⟨(H.2.2.2 hc19).1, fun hc18 => ((H.2.2.2 hc19).2.1 hc18), fun hc18 => ((H.2.2.2 hc19).2.2 hc18)⟩⟩⟩
set_option maxRecDepth 20000 in
theorem vc_X11_isGood_311 {R : Mem → Option AV → Prop} {j v v5 : Int} {μ : Mem} (H : r32 v5 ∧ r32 (μ 201 22) ∧ (((μ 201 22) ≤ v5) → r64 v ∧ r64 (μ 201 27) ∧ ((v < (μ 201 27)) → V_X11_isGood R 294 [(0, kR 201), (1, kI 0), (2, kI (j + 1))] μ) ∧ (¬ (v < (μ 201 27)) → V_X11_isGood R 294 [(0, kR 201), (1, kI 1), (2, kI (j + 1))] μ)) ∧ (¬ ((μ 201 22) ≤ v5) → (0 ≤ v5 ∧ v5 < 4) ∧ (0 ≤ ((24 * (μ 211 v5)) + j) ∧ ((24 * (μ 211 v5)) + j) < 96) ∧ r32 (μ 209 ((24 * (μ 211 v5)) + j)) ∧ (0 ≤ v5 ∧ v5 < 4) ∧ V_X11_isGood R 311 [(0, kR 201), (2, kI j), (3, kL (v + ((μ 209 ((24 * (μ 211 v5)) + j)) * (μ 213 v5)))), (5, kI (v5 + 1))] μ)) : V_X11_isGood R 311 [(0, kR 201), (2, kI j), (3, kL v), (5, kI v5)] μ := by
  refine vm_step2 mt_X11_isGood ok_X11_isGood [(5, [0]), (10, [0]), (12, [0, 1]), (27, [0, 1]), (34, [0, 1]), (42, [0, 1]), (52, [0, 1, 2]), (77, [0, 1, 2, 3]), (87, [0, 1, 2, 3]), (97, [0, 1, 2, 3]), (122, [0, 1, 2]), (158, [0]), (162, [0, 1, 2]), (210, [0, 1, 2]), (227, [0, 2, 3, 5]), (294, [0, 1, 2]), (311, [0, 2, 3, 5])] 1000 ?_
  show isC 201 11 ∧ (r32 v5 ∧ r32 (μ 201 22)) ∧ (((μ 201 22) ≤ v5) → isC 201 11 ∧ (r64 v ∧ r64 (μ 201 27)) ∧ r32 (lcm3 v (μ 201 27)) ∧ ((lcm3 v (μ 201 27) < 0) → V_X11_isGood R 294 [(0, kR 201), (1, kI 0), (2, kI (j + 1))] μ) ∧ (¬ (lcm3 v (μ 201 27) < 0) → V_X11_isGood R 294 [(0, kR 201), (1, kI 1), (2, kI (j + 1))] μ)) ∧ (¬ ((μ 201 22) ≤ v5) → isC 201 11 ∧ isC 201 11 ∧ inA 211 0 v5 ∧ inA 209 0 ((24 * (μ 211 v5)) + j) ∧ r32 (μ 209 ((24 * (μ 211 v5)) + j)) ∧ isC 201 11 ∧ inA 213 1 v5 ∧ V_X11_isGood R 311 [(0, kR 201), (2, kI j), (3, kL (v + ((μ 209 ((24 * (μ 211 v5)) + j)) * (μ 213 v5)))), (5, kI (v5 + 1))] μ)
  exact ⟨c_201, ⟨⟨H.1, H.2.1⟩, fun hc21 => ⟨c_201, ⟨⟨(H.2.2.1 hc21).1, (H.2.2.1 hc21).2.1⟩, lcm3_r _ _, fun hc20 => ((H.2.2.1 hc21).2.2.1 (lcm_lt.mp hc20)), fun hc20 => ((H.2.2.1 hc21).2.2.2 (fun q => hc20 (lcm_lt.mpr q)))⟩⟩, fun hc21 => ⟨c_201, ⟨c_201, ⟨isArr.in a_211 (H.2.2.2 hc21).1.1 (H.2.2.2 hc21).1.2, ⟨isArr.in a_209 (H.2.2.2 hc21).2.1.1 (H.2.2.2 hc21).2.1.2, ⟨(H.2.2.2 hc21).2.2.1, ⟨c_201, ⟨isArr.in a_213 (H.2.2.2 hc21).2.2.2.1.1 (H.2.2.2 hc21).2.2.2.1.2, (H.2.2.2 hc21).2.2.2.2⟩⟩⟩⟩⟩⟩⟩⟩⟩
theorem KB_frame {μ m : Mem} (h : KB μ) (hf : ∀ f : Int, (f = 14 ∨ f = 19 ∨ f = 22) → m 201 f = μ 201 f) (h9 : m 209 = μ 209) (h11 : m 211 = μ 211) (h12 : m 212 = μ 212) : KB m ∧ AtM m = AtM μ ∧ Fk m = Fk μ := by
  have eF : Fk m = Fk μ := by unfold Fk; rw [h9]
  refine ⟨?_, by unfold AtM; rw [eF, h11, h12], eF⟩
  unfold KB at *
  rw [eF, h11, h12, hf 14 (by omega), hf 19 (by omega), hf 22 (by omega)]
  exact h
theorem body_X11_isGood {o : Int} {μ : Mem} {R : Mem → Option AV → Prop} (h : P_X11_isGood o μ) (hR : ∀ (μ' : Mem) (r : Int), Q_X11_isGood o μ μ' r → R μ' (some (kI r))) : V_X11_isGood R 0 [(0, kR o)] μ := by
  obtain ⟨rfl, hk⟩ := h
  have hk1 := hk.1
  have hk2 := hk.2.1
  obtain ⟨G, eG⟩ : ∃ G : Mem → Prop, ∀ m, G m = ((∀ f : Int, f ≠ 27 → f ≠ 28 → m 201 f = μ 201 f) ∧ ∀ z : Int, z ≠ 201 → z ≠ 213 → z ≠ 214 → m z = μ z) := ⟨_, fun _ => rfl⟩
  obtain ⟨A, eA⟩ : ∃ A : Int → Int → Int, A = AtM μ := ⟨_, rfl⟩
  have fr : ∀ m : Mem, G m → KB m ∧ AtM m = A ∧ m 201 22 = μ 201 22 ∧ m 201 14 = μ 201 14 ∧ m 201 19 = μ 201 19 ∧ m 209 = μ 209 ∧ m 211 = μ 211 ∧ m 212 = μ 212 := fun m hg => by
    rw [eG] at hg
    obtain ⟨a, b, _⟩ := KB_frame hk (m := m) (fun f hf => hg.1 f (by omega) (by omega)) (hg.2 209 (by omega) (by omega) (by omega)) (hg.2 211 (by omega) (by omega) (by omega)) (hg.2 212 (by omega) (by omega) (by omega))
    exact ⟨a, by rw [b, eA], hg.1 22 (by omega) (by omega), hg.1 14 (by omega) (by omega), hg.1 19 (by omega) (by omega), hg.2 209 (by omega) (by omega) (by omega), hg.2 211 (by omega) (by omega) (by omega), hg.2 212 (by omega) (by omega) (by omega)⟩
  have Gf : ∀ (m : Mem) (f w : Int), G m → (f = 27 ∨ f = 28) → G (updm m 201 f w) := fun m f w hg hf => by
    rw [eG] at hg ⊢
    exact ⟨fun g a b => by rw [ru_eq, r1_ne (by omega), hg.1 g a b], fun z a b c => by rw [ru_ne a, hg.2 z a b c]⟩
  have Gs : ∀ (m : Mem) (z j w : Int), G m → (z = 213 ∨ z = 214) → G (updm m z j w) := fun m z j w hg hz => by
    rw [eG] at hg ⊢
    exact ⟨fun g a b => by rw [ru_ne (by omega), hg.1 g a b], fun y a b c => by rw [ru_ne (by omega), hg.2 y a b c]⟩
  obtain ⟨k, eK⟩ : ∃ k : Int, k = μ 201 22 := ⟨_, rfl⟩
  obtain ⟨n, eN⟩ : ∃ n : Int, n = μ 201 14 := ⟨_, rfl⟩
  obtain ⟨N, eNN⟩ : ∃ N : Int, N = μ 201 19 := ⟨_, rfl⟩
  obtain ⟨F, eF⟩ : ∃ F : Int → Int → Int, F = Fk μ := ⟨_, rfl⟩
  obtain ⟨cp, ec⟩ : ∃ cp : Int → Int, cp = μ 211 := ⟨_, rfl⟩
  obtain ⟨rp, er⟩ : ∃ rp : Int → Int, rp = μ 212 := ⟨_, rfl⟩
  have hA : ∀ i j, A i j = F (cp i) (rp j) := fun i j => by rw [eA, eF, ec, er]; rfl
  have hcp : ∀ i : Int, 0 ≤ i → i < k → 0 ≤ cp i ∧ cp i < n := fun i i0 i1 => by rw [ec, eN]; exact hk.c i0 (by omega)
  have hrp : ∀ i : Int, 0 ≤ i → i < k → 0 ≤ rp i ∧ rp i < N := fun i i0 i1 => by rw [er, eNN]; exact hk.r i0 (by omega)
  have hFb : ∀ c r : Int, 0 ≤ c → c < n → 0 ≤ r → r < N → 1 ≤ F c r ∧ F c r ≤ 560 := fun c r c0 c1 r0 r1 => by rw [eF]; exact hk.2.2.1 c r c0 (by omega) r0 (by omega)
  have hFk : ∀ a b : Int, 0 ≤ a → a < k → 0 ≤ b → b < k → 0 ≤ F (cp a) (rp b) ∧ F (cp a) (rp b) ≤ 560 := fun a b a0 a1 b0 b1 => by
    have c := hcp a a0 a1
    have r := hrp b b0 b1
    have := hFb _ _ c.1 c.2 r.1 r.2
    omega
  unfold Q_X11_isGood sgM GoodM at hR
  rw [← eK, ← eN, ← eNN, ← eF, ← ec, ← er] at hR
  rw [← eK, ← eN] at hk1
  rw [← eN, ← eNN] at hk2
  rw [← eK, ← eN, ← eNN] at fr
  have hKR : ∀ j : Int, 0 ≤ j → j < k → -1053696000 ≤ kerR F k cp rp j ∧ kerR F k cp rp j ≤ 1053696000 := fun j j0 j1 => kerR_bd hk1.1 (by omega) j0 hFk
  have hKC : ∀ j : Int, 0 ≤ j → j < k → -1053696000 ≤ kerC F k cp rp j ∧ kerC F k cp rp j ≤ 1053696000 := fun j j0 j1 => kerC_bd hk1.1 (by omega) j0 hFk
  obtain ⟨S, eS⟩ : ∃ S : Int, S = kerS F k cp rp := ⟨_, rfl⟩
  obtain ⟨DD, eD⟩ : ∃ DD : Int, DD = kerD F k cp rp := ⟨_, rfl⟩
  have Sb : -4214784000 ≤ S ∧ S ≤ 4214784000 := by
    have h1 := sm_bd (f := kerR F k cp rp) (n := k) (c := -1053696000) (d := 1053696000) hKR (by omega)
    have h2 : k * 1053696000 ≤ 4 * 1053696000 := Int.mul_le_mul_of_nonneg_right (by omega) (by omega)
    have e : kerS F k cp rp = sm (kerR F k cp rp) k := rfl
    omega
  have Db : -2360279040000 ≤ DD ∧ DD ≤ 2360279040000 := by
    have h1 := smv_bd (f := fun j => F (cp 0) (rp j)) (x := kerR F k cp rp) (k := k) (B := 1053696000) (by omega) (by omega) (by omega) (fun j j0 j1 => hFk 0 j (by omega) (by omega) j0 j1) hKR
    have e : kerD F k cp rp = sm (fun j => F (cp 0) (rp j) * kerR F k cp rp j) k := sm_congr fun j _ _ => Int.mul_comm _ _
    omega
  rw [← eS, ← eD] at hR
  -- the tests, once the numbers stand
  have tests : ∀ m : Mem, G m → m 201 27 = sgn S * DD → m 201 28 = sgn S * S → S ≠ 0 → (∀ i : Int, 0 ≤ i → i < k → m 213 i = sgn S * kerC F k cp rp i ∧ m 214 i = sgn S * kerR F k cp rp i) → V_X11_isGood R 158 [(0, kR 201)] m := by
    intro m hg h27 h28 hS hs
    obtain ⟨kb, eAt, e22, e14, e19, e209, e211, e212⟩ := fr m hg
    have sg : sgn S = 1 ∨ sgn S = -1 := by unfold sgn; split <;> omega
    have sb : ∀ x B : Int, -B ≤ x → x ≤ B → -B ≤ sgn S * x ∧ sgn S * x ≤ B := fun x B a b => by
      rcases sg with e | e <;> rw [e] <;> omega
    have db := sb DD 2360279040000 Db.1 Db.2
    have fin : ∀ r : Int, ((r = 1 ∧ Good F n N k cp rp) ∨ (r = 0 ∧ ¬ Good F n N k cp rp)) → R m (some (kI r)) := fun r hr => by
      have hg' := hg
      rw [eG] at hg'
      refine hR m r ⟨?_, hg'⟩
      rcases hr with ⟨a, b⟩ | h
      · exact Or.inl ⟨a, b, h27, h28, hs⟩
      · exact Or.inr h
    have cF : ∀ c j : Int, m 209 (24 * c + j) = F c j := fun c j => by rw [e209, eF]; rfl
    have m211 : m 211 = cp := by rw [e211, ec]
    have m212 : m 212 = rp := by rw [e212, er]
    -- rows
    have p3 := up_ind (P := fun r => ∀ i : Int, ((i = 1 ∧ (∀ j, 0 ≤ j → j < k → 0 ≤ sgn S * kerR F k cp rp j) ∧ (∀ j, 0 ≤ j → j < k → 0 ≤ sgn S * kerC F k cp rp j) ∧ (∀ c, 0 ≤ c → c < n → sm (fun j => sgn S * kerR F k cp rp j * F c (rp j)) k ≤ sgn S * DD) ∧ ∀ r', 0 ≤ r' → r' < r → sgn S * DD ≤ sm (fun i => sgn S * kerC F k cp rp i * F (cp i) r') k) ∨ (i = 0 ∧ ¬ Good F n N k cp rp)) → V_X11_isGood R 294 [(0, kR 201), (1, kI i), (2, kI r)] m) (lo := 0) (hi := N) ?_ ?_
    rotate_left
    · intro r r0 r1 ih i hi
      refine vc_X11_isGood_294 ?_
      rw [e19]
      refine ⟨rr (by omega), rr (by omega), fun c => absurd c (by omega), fun _ => ⟨rr (by omega), fun c => ⟨by omega, fin i ?_⟩, fun c => ?_⟩⟩
      · rcases hi with hi | hi
        · omega
        · exact Or.inr hi
      · rcases hi with ⟨_, t1, t2, t3, t4⟩ | hi
        rotate_left
        · omega
        have xb : ∀ l : Int, 0 ≤ l → l < k → 0 ≤ F (cp l) r ∧ F (cp l) r ≤ 560 := fun l l0 l1 => by
          have c := hcp l l0 l1
          have := hFb _ r c.1 c.2 r0 r1
          omega
        have inn := up_ind (P := fun l => V_X11_isGood R 311 [(0, kR 201), (2, kI r), (3, kL (sm (fun i => F (cp i) r * (sgn S * kerC F k cp rp i)) l)), (5, kI l)] m) (lo := 0) (hi := k) ?_ ?_
        · exact inn 0 (by omega) (by omega)
        · intro l l0 l1 ihl
          have hc := hcp l l0 l1
          have x := xb l l0 l1
          rw [sm_s l0] at ihl
          refine vc_X11_isGood_311 ?_
          rw [e22, m211, cF, (hs l l0 l1).1]
          exact ⟨rr (by omega), rr (by omega), fun c => absurd c (by omega), fun _ => ⟨by omega, by omega, rr (by omega), by omega, ihl⟩⟩
        · have vb := smv_bd (f := fun i => F (cp i) r) (x := fun i => sgn S * kerC F k cp rp i) (k := k) (B := 1053696000) (by omega) (by omega) (by omega) xb (fun l l0 l1 => sb _ _ (hKC l l0 l1).1 (hKC l l0 l1).2)
          have ev : sm (fun i => F (cp i) r * (sgn S * kerC F k cp rp i)) k = sm (fun i => sgn S * kerC F k cp rp i * F (cp i) r) k := sm_congr fun i _ _ => Int.mul_comm _ _
          have vb' : -(4 * (560 * 1053696000)) ≤ sm (fun i => F (cp i) r * (sgn S * kerC F k cp rp i)) k ∧ sm (fun i => F (cp i) r * (sgn S * kerC F k cp rp i)) k ≤ 4 * (560 * 1053696000) := vb
          refine vc_X11_isGood_311 ?_
          rw [e22, h27]
          refine ⟨rr (by omega), rr (by omega), fun _ => ⟨rl (by omega), rl (by omega), fun c => ih 0 (Or.inr ⟨rfl, fun q => ?_⟩), fun c => ih 1 (Or.inl ⟨rfl, t1, t2, t3, fun r' a b => ?_⟩)⟩, fun c => absurd (Int.le_refl _) c⟩
          · have := q.2.2.2.2 r r0 r1
            rw [← eS, ← eD] at this
            omega
          · by_cases e : r' = r
            · rw [e]; omega
            · exact t4 r' a (by omega)
    · intro i hi
      refine vc_X11_isGood_294 ?_
      rw [e19]
      refine ⟨rr (by omega), rr (by omega), fun _ => ⟨by omega, fin i ?_⟩, fun c => absurd (Int.le_refl _) c⟩
      rcases hi with ⟨a, t1, t2, t3, t4⟩ | hi
      · refine Or.inl ⟨a, ?_⟩
        unfold Good
        rw [← eS, ← eD]
        exact ⟨hS, t1, t2, t3, t4⟩
      · exact Or.inr hi
    -- cellars
    have p2 := up_ind (P := fun c => ∀ i : Int, ((i = 1 ∧ (∀ j, 0 ≤ j → j < k → 0 ≤ sgn S * kerR F k cp rp j) ∧ (∀ j, 0 ≤ j → j < k → 0 ≤ sgn S * kerC F k cp rp j) ∧ ∀ c', 0 ≤ c' → c' < c → sm (fun j => sgn S * kerR F k cp rp j * F c' (rp j)) k ≤ sgn S * DD) ∨ (i = 0 ∧ ¬ Good F n N k cp rp)) → V_X11_isGood R 210 [(0, kR 201), (1, kI i), (2, kI c)] m) (lo := 0) (hi := n) ?_ ?_
    rotate_left
    · intro c c0 c1 ih i hi
      refine vc_X11_isGood_210 ?_
      rw [e14]
      refine ⟨rr (by omega), rr (by omega), fun q => absurd q (by omega), fun _ => ⟨rr (by omega), fun q => p3 0 (by omega) (by omega) i ?_, fun q => ?_⟩⟩
      · rcases hi with hi | hi
        · omega
        · exact Or.inr hi
      · rcases hi with ⟨_, t1, t2, t3⟩ | hi
        rotate_left
        · omega
        have xb : ∀ l : Int, 0 ≤ l → l < k → 0 ≤ F c (rp l) ∧ F c (rp l) ≤ 560 := fun l l0 l1 => by
          have r := hrp l l0 l1
          have := hFb c _ c0 c1 r.1 r.2
          omega
        have inn := up_ind (P := fun l => V_X11_isGood R 227 [(0, kR 201), (2, kI c), (3, kL (sm (fun i => F c (rp i) * (sgn S * kerR F k cp rp i)) l)), (5, kI l)] m) (lo := 0) (hi := k) ?_ ?_
        · exact inn 0 (by omega) (by omega)
        · intro l l0 l1 ihl
          have hr := hrp l l0 l1
          have x := xb l l0 l1
          rw [sm_s l0] at ihl
          refine vc_X11_isGood_227 ?_
          rw [e22, m212, cF, (hs l l0 l1).2]
          exact ⟨rr (by omega), rr (by omega), fun q => absurd q (by omega), fun _ => ⟨by omega, by omega, rr (by omega), by omega, ihl⟩⟩
        · have vb := smv_bd (f := fun i => F c (rp i)) (x := fun i => sgn S * kerR F k cp rp i) (k := k) (B := 1053696000) (by omega) (by omega) (by omega) xb (fun l l0 l1 => sb _ _ (hKR l l0 l1).1 (hKR l l0 l1).2)
          have ev : sm (fun i => F c (rp i) * (sgn S * kerR F k cp rp i)) k = sm (fun j => sgn S * kerR F k cp rp j * F c (rp j)) k := sm_congr fun i _ _ => Int.mul_comm _ _
          have vb' : -(4 * (560 * 1053696000)) ≤ sm (fun i => F c (rp i) * (sgn S * kerR F k cp rp i)) k ∧ sm (fun i => F c (rp i) * (sgn S * kerR F k cp rp i)) k ≤ 4 * (560 * 1053696000) := vb
          refine vc_X11_isGood_227 ?_
          rw [e22, h27]
          refine ⟨rr (by omega), rr (by omega), fun _ => ⟨rl (by omega), rl (by omega), fun q => ih 0 (Or.inr ⟨rfl, fun g => ?_⟩), fun q => ih 1 (Or.inl ⟨rfl, t1, t2, fun c' a b => ?_⟩)⟩, fun q => absurd (Int.le_refl _) q⟩
          · have := g.2.2.2.1 c c0 c1
            rw [← eS, ← eD] at this
            omega
          · by_cases e : c' = c
            · rw [e]; omega
            · exact t3 c' a (by omega)
    · intro i hi
      refine vc_X11_isGood_210 ?_
      rw [e14]
      refine ⟨rr (by omega), rr (by omega), fun _ => p3 0 (by omega) (by omega) i ?_, fun c => absurd (Int.le_refl _) c⟩
      rcases hi with ⟨a, t1, t2, t3⟩ | hi
      · exact Or.inl ⟨a, t1, t2, t3, fun r' x y => absurd x (by omega)⟩
      · exact Or.inr hi
    -- the chances
    have p1 := up_ind (P := fun l => ∀ i : Int, ((i = 1 ∧ (∀ j, 0 ≤ j → j < l → 0 ≤ sgn S * kerR F k cp rp j) ∧ (∀ j, 0 ≤ j → j < l → 0 ≤ sgn S * kerC F k cp rp j)) ∨ (i = 0 ∧ ¬ Good F n N k cp rp)) → V_X11_isGood R 162 [(0, kR 201), (1, kI i), (2, kI l)] m) (lo := 0) (hi := k) ?_ ?_
    rotate_left
    · intro l l0 l1 ih i hi
      have hsl := hs l l0 l1
      have b1 := sb _ _ (hKC l l0 l1).1 (hKC l l0 l1).2
      have b2 := sb _ _ (hKR l l0 l1).1 (hKR l l0 l1).2
      refine vc_X11_isGood_162 ?_
      rw [e22, hsl.1, hsl.2]
      refine ⟨rr (by omega), rr (by omega), fun q => absurd q (by omega), fun _ => ⟨rr (by omega), fun q => ih 0 (Or.inr ⟨rfl, ?_⟩), fun q => ⟨by omega, rl (by omega), fun d => ih 0 (Or.inr ⟨rfl, fun g => ?_⟩), fun d => ⟨by omega, rl (by omega), fun e => ih 0 (Or.inr ⟨rfl, fun g => ?_⟩), fun e => ih 1 (Or.inl ⟨rfl, fun j a b => ?_, fun j a b => ?_⟩)⟩⟩⟩⟩
      · rcases hi with hi | hi
        · omega
        · exact hi.2
      · have := g.2.2.1 l l0 l1
        rw [← eS] at this
        omega
      · have := g.2.1 l l0 l1
        rw [← eS] at this
        omega
      · rcases hi with ⟨_, t1, t2⟩ | hi
        · by_cases x : j = l
          · rw [x]; omega
          · exact t1 j a (by omega)
        · omega
      · rcases hi with ⟨_, t1, t2⟩ | hi
        · by_cases x : j = l
          · rw [x]; omega
          · exact t2 j a (by omega)
        · omega
    · intro i hi
      refine vc_X11_isGood_162 ?_
      rw [e22]
      refine ⟨rr (by omega), rr (by omega), fun _ => p2 0 (by omega) (by omega) i ?_, fun c => absurd (Int.le_refl _) c⟩
      rcases hi with ⟨a, t1, t2⟩ | hi
      · exact Or.inl ⟨a, t1, t2, fun c' x y => absurd x (by omega)⟩
      · exact Or.inr hi
    exact vc_X11_isGood_158 (p1 0 (by omega) (by omega) 1 (Or.inl ⟨rfl, fun j a b => absurd a (by omega), fun j a b => absurd a (by omega)⟩))
  -- the sums
  obtain ⟨C, eC⟩ : ∃ C : Int → Int, ∀ i, C i = sm (fun j => cofM A k i j) k := ⟨_, fun _ => rfl⟩
  obtain ⟨D, eDs⟩ : ∃ D : Int, D = sm (fun j => A 0 j * cofM A k 0 j) k := ⟨_, rfl⟩
  obtain ⟨St, eSt⟩ : ∃ St : Mem → Int → Int → Prop, ∀ m i j, St m i j = ((∀ i', 0 ≤ i' → i' < k → m 213 i' = if i' < i then C i' else if i' = i then sm (fun j => cofM A k i j) j else 0) ∧ (∀ j', 0 ≤ j' → j' < k → m 214 j' = sm (fun i' => cofM A k i' j') i + if j' < j then cofM A k i j' else 0) ∧ m 201 28 = sm C i + sm (fun j => cofM A k i j) j ∧ m 201 27 = if i = 0 then sm (fun j => A 0 j * cofM A k 0 j) j else D) := ⟨_, fun _ _ _ => rfl⟩
  have loop := up_ind (P := fun i => ∀ m : Mem, G m → St m i 0 → V_X11_isGood R 42 [(0, kR 201), (1, kI i)] m) (lo := 0) (hi := k) ?_ ?_
  rotate_left
  · intro i i0 i1 ih m hg hst
    obtain ⟨kb, eAt, e22, e14, e19, e209, e211, e212⟩ := fr m hg
    have inn := up_ind (P := fun j => ∀ m : Mem, G m → St m i j → V_X11_isGood R 52 [(0, kR 201), (1, kI i), (2, kI j)] m) (lo := 0) (hi := k) ?_ ?_
    · refine vc_X11_isGood_42 ?_
      rw [e22]
      exact ⟨rr (by omega), rr (by omega), fun c => absurd c (by omega), fun _ => inn 0 (by omega) (by omega) m hg hst⟩
    · intro j j0 j1 ihj m hg hst
      obtain ⟨kb, eAt, e22, e14, e19, e209, e211, e212⟩ := fr m hg
      rw [eSt] at hst
      obtain ⟨s1, s2, s3, s4⟩ := hst
      have ecof : F_X11_cofactor 201 i j m = cofM A k i j := by unfold F_X11_cofactor; rw [eAt, e22]
      obtain ⟨v, ev⟩ : ∃ v : Int, v = cofM A k i j := ⟨_, rfl⟩
      have h213 := s1 i i0 i1
      rw [if_neg (by omega), if_pos rfl] at h213
      have h214 := s2 j j0 j1
      rw [if_neg (by omega), Int.add_zero] at h214
      refine vc_X11_isGood_52 ?_
      rw [e22, ecof, ← ev]
      refine ⟨rr (by omega), rr (by omega), fun c => absurd c (by omega), fun _ => ⟨⟨rfl, kb, by omega, by omega⟩, by omega, by omega, vc_X11_isGood_77 ⟨by omega, by omega, ?_⟩⟩⟩
      obtain ⟨m1, em1⟩ : ∃ x, x = updm m 213 i (m 213 i + v) := ⟨_, rfl⟩
      rw [← em1]
      have g1 : G m1 := by rw [em1]; exact Gs m 213 i _ hg (Or.inl rfl)
      have e1 : m1 214 = m 214 := by rw [em1, ru_ne (by omega)]
      rw [e1, h214]
      obtain ⟨m2, em2⟩ : ∃ x, x = updm m1 214 j (sm (fun i' => cofM A k i' j) i + v) := ⟨_, rfl⟩
      rw [← em2]
      have g2 : G m2 := by rw [em2]; exact Gs m1 214 j _ g1 (Or.inr rfl)
      have e28 : m2 201 28 = m 201 28 := by rw [em2, ru_ne (by omega), em1, ru_ne (by omega)]
      refine vc_X11_isGood_87 ?_
      rw [e28, s3]
      obtain ⟨m3, em3⟩ : ∃ x, x = updm m2 201 28 (sm C i + sm (fun j => cofM A k i j) j + v) := ⟨_, rfl⟩
      rw [← em3]
      have g3 : G m3 := by rw [em3]; exact Gf m2 28 _ g2 (Or.inr rfl)
      have e27 : m3 201 27 = m 201 27 := by rw [em3, ru_eq, r1_ne (by omega), em2, ru_ne (by omega), em1, ru_ne (by omega)]
      have last : ∀ w : Int, w = (if i = 0 then sm (fun j => A 0 j * cofM A k 0 j) (j + 1) else D) → V_X11_isGood R 122 [(0, kR 201), (1, kI i), (2, kI j)] (updm m3 201 27 w) := fun w hw => by
        refine vc_X11_isGood_122 (ihj _ (Gf m3 27 w g3 (Or.inl rfl)) ?_)
        rw [eSt]
        refine ⟨fun i' a b => ?_, fun j' a b => ?_, ?_, ?_⟩
        · rw [ru_ne (by omega), em3, ru_ne (by omega), em2, ru_ne (by omega), em1, ru_eq]
          by_cases e : i' = i
          · rw [e, r1_eq, h213, if_neg (by omega), if_pos rfl, sm_s j0, ev]
          · rw [r1_ne e, s1 i' a b, if_neg e, if_neg e]
        · rw [ru_ne (by omega), em3, ru_ne (by omega), em2, ru_eq]
          by_cases e : j' = j
          · rw [e, r1_eq, if_pos (by omega), ev]
          · rw [r1_ne e, e1, s2 j' a b]
            by_cases l : j' < j
            · rw [if_pos l, if_pos (by omega)]
            · rw [if_neg l, if_neg (by omega)]
        · rw [ru_eq, r1_ne (by omega), em3, ru_eq, r1_eq, sm_s j0, ev, Int.add_assoc]
        · rw [ru_eq, r1_eq, hw]
      obtain ⟨kb3, eAt3, e223, _⟩ := fr m3 g3
      refine vc_X11_isGood_97 ?_
      unfold F_X11_at
      rw [e27, s4, eAt3, ev]
      refine ⟨rr (by omega), fun c => last _ ?_, fun c => ⟨⟨rfl, kb3, by omega, by omega⟩, last _ ?_⟩⟩
      · rw [if_neg c, if_neg c, Int.add_zero]
      · have cc := Classical.not_not.mp c
        rw [if_pos cc, if_pos cc, sm_s j0, cc]
    · intro m hg hst
      obtain ⟨kb, eAt, e22, e14, e19, e209, e211, e212⟩ := fr m hg
      refine vc_X11_isGood_52 ?_
      rw [e22]
      refine ⟨rr (by omega), rr (by omega), fun _ => ih m hg ?_, fun c => absurd (Int.le_refl _) c⟩
      rw [eSt] at hst ⊢
      obtain ⟨s1, s2, s3, s4⟩ := hst
      refine ⟨fun i' a b => ?_, fun j' a b => ?_, ?_, ?_⟩
      · rw [s1 i' a b]
        by_cases e : i' = i
        · rw [e, if_neg (by omega), if_pos rfl, if_pos (by omega), eC]
        · by_cases l : i' < i
          · rw [if_pos l, if_pos (show i' < i + 1 by omega)]
          · rw [if_neg l, if_neg e, if_neg (show ¬ i' < i + 1 by omega)]
            by_cases x : i' = i + 1
            · rw [if_pos x]; rfl
            · rw [if_neg x]
      · rw [s2 j' a b, if_pos b, if_neg (by omega), sm_s i0, Int.add_zero]
      · rw [s3, sm_s i0, eC]
        show _ = _ + 0
        omega
      · rw [s4, if_neg (show ¬ i + 1 = 0 by omega)]
        by_cases e : i = 0
        · rw [if_pos e, eDs]
        · rw [if_neg e]
  · intro m hg hst
    obtain ⟨kb, eAt, e22, e14, e19, e209, e211, e212⟩ := fr m hg
    rw [eSt] at hst
    obtain ⟨s1, s2, s3, s4⟩ := hst
    have t28 : m 201 28 = S := by
      rw [s3, eS, ← ker_sc (F := F) (cp := cp) (rp := rp) hk1.1 (by omega)]
      show sm C k + 0 = _
      rw [Int.add_zero]
      exact sm_congr fun i i0 i1 => by rw [eC]; exact cofC hA hk1.1 (by omega) i0 i1
    have t27 : m 201 27 = DD := by rw [s4, if_neg (by omega), eDs, eD]; exact cofD hA hk1.1 (by omega)
    have t13 : ∀ i : Int, 0 ≤ i → i < k → m 213 i = kerC F k cp rp i ∧ m 214 i = kerR F k cp rp i := fun i i0 i1 => by
      refine ⟨?_, ?_⟩
      · rw [s1 i i0 i1, if_pos i1, eC]; exact cofC hA hk1.1 (by omega) i0 i1
      · rw [s2 i i0 i1, if_neg (by omega), Int.add_zero]; exact cofR hA hk1.1 (by omega) i0 i1
    refine vc_X11_isGood_42 ?_
    rw [e22, t28]
    refine ⟨rr (by omega), rr (by omega), fun _ => ⟨rl (by omega), fun c => ⟨rl (by omega), fun d => ?_, fun d => ⟨⟨rfl, by omega, by omega⟩, fun m2 q => ?_⟩⟩, fun c => ?_⟩, fun c => absurd (Int.le_refl _) c⟩
    · have sg : sgn S = 1 := if_neg (by omega)
      refine tests m hg (by rw [sg, Int.one_mul, t27]) (by rw [sg, Int.one_mul, t28]) c (fun i i0 i1 => ?_)
      rw [sg, Int.one_mul, Int.one_mul]
      exact t13 i i0 i1
    · have sg : sgn S = -1 := if_pos (by omega)
      obtain ⟨q27, q28, qs, qf, qz⟩ := q
      refine tests m2 ?_ (by rw [sg, Int.neg_one_mul, q27, t27]) (by rw [sg, Int.neg_one_mul, q28, t28]) c (fun i i0 i1 => ?_)
      · rw [eG] at hg ⊢
        exact ⟨fun f a b => by rw [qf f a b, hg.1 f a b], fun z a b c => by rw [qz z a b c, hg.2 z a b c]⟩
      · have := qs i i0 (by rw [e22]; exact i1)
        rw [sg, Int.neg_one_mul, Int.neg_one_mul, this.1, this.2, (t13 i i0 i1).1, (t13 i i0 i1).2]
        exact ⟨rfl, rfl⟩
    · have hg' := hg
      rw [eG] at hg'
      refine hR m 0 ⟨Or.inr ⟨rfl, fun q => q.1 ?_⟩, hg'⟩
      rw [← eS]
      exact Classical.not_not.mp c
  have zero := up_ind (P := fun i => ∀ m : Mem, G m → m 201 27 = 0 → m 201 28 = 0 → (∀ j : Int, 0 ≤ j → j < i → m 213 j = 0 ∧ m 214 j = 0) → V_X11_isGood R 12 [(0, kR 201), (1, kI i)] m) (lo := 0) (hi := k) ?_ ?_
  · refine vc_X11_isGood_0 (vc_X11_isGood_5 (vc_X11_isGood_10 (zero 0 (by omega) (by omega) _ (Gf _ 28 0 (Gf μ 27 0 ?_ (Or.inl rfl)) (Or.inr rfl)) ?_ ?_ (fun j a b => absurd a (by omega)))))
    · rw [eG]; exact ⟨fun _ _ _ => rfl, fun _ _ _ _ => rfl⟩
    · rw [ru_eq, r1_ne (by omega), ru_eq, r1_eq]
    · rw [ru_eq, r1_eq]
  · intro i i0 i1 ih m hg h27 h28 hz
    obtain ⟨kb, eAt, e22, _⟩ := fr m hg
    refine vc_X11_isGood_12 ?_
    rw [e22]
    refine ⟨rr (by omega), rr (by omega), fun c => absurd c (by omega), fun _ => ⟨by omega, vc_X11_isGood_27 ⟨by omega, vc_X11_isGood_34 (ih _ (Gs _ 214 i 0 (Gs m 213 i 0 hg (Or.inl rfl)) (Or.inr rfl)) (by rw [ru_ne (by omega), ru_ne (by omega)]; exact h27) (by rw [ru_ne (by omega), ru_ne (by omega)]; exact h28) (fun j a b => ?_))⟩⟩⟩
    rw [ru_ne (show (213 : Int) ≠ 214 by omega), ru_eq, ru_eq]
    by_cases e : j = i
    · rw [e, r1_eq, r1_eq]; exact ⟨rfl, rfl⟩
    · rw [r1_ne e, r1_ne e, ru_ne (by omega)]; exact hz j a (by omega)
  · intro m hg h27 h28 hz
    obtain ⟨kb, eAt, e22, _⟩ := fr m hg
    refine vc_X11_isGood_12 ?_
    rw [e22]
    refine ⟨rr (by omega), rr (by omega), fun _ => loop 0 (by omega) (by omega) m hg ?_, fun c => absurd (Int.le_refl _) c⟩
    rw [eSt]
    refine ⟨fun i' a b => ?_, fun j' a b => ?_, ?_, ?_⟩
    · rw [(hz i' a b).1, if_neg (by omega)]
      by_cases x : i' = 0
      · rw [if_pos x]; rfl
      · rw [if_neg x]
    · rw [(hz j' a b).2, if_neg (by omega)]; rfl
    · rw [h28]; rfl
    · rw [h27, if_pos rfl]; rfl
theorem ct_X11_isGood : Ct mX11_isGood 3 76 0 0 (nrmS S_X11_isGood) := by
  refine ct_vm (own := RX11) (by decide +kernel) rfl ?_ ?_
  · intro as μ Q hS
    unfold S_X11_isGood at hS
    split at hS
    · exact Nat.le_of_ble_eq_true rfl
    · exact hS.elim
  · intro as μ R hS
    unfold S_X11_isGood at hS
    split at hS
    · exact body_X11_isGood hS.1 hS.2
    · exact hS.elim
def KSv (μ : Mem) : GV := (μ 201 22, μ 201 27, μ 201 28, clip (μ 201 22) (μ 211), clip (μ 201 22) (μ 212), clip (μ 201 22) (μ 213), clip (μ 201 22) (μ 214))
def P_X11_searches (o : Int) (μ : Mem) : Prop := o = 201 ∧ ∃ s, GPm μ s
def Q_X11_searches (_ : Int) (μ μ' : Mem) (r : Int) : Prop := r = 1 ∧ (∀ s : Int, GPm μ s → gv (Wm μ) s = KSv μ' ∧ (1 ≤ μ' 201 22 ∧ μ' 201 22 ≤ popc s) ∧ Pk (μ' 201 22) (popc s) (μ' 211) ∧ Pk (μ' 201 22) 24 (μ' 212)) ∧ FldM μ μ' [19, 22, 27, 28] ∧ ∀ z : Int, z ≠ 201 → (z < 209 ∨ 214 < z) → μ' z = μ z
def S_X11_searches : S0t := fun as μ Q => match as with
  | [(2, x0)] => P_X11_searches x0 μ ∧ ∀ (μ' : Mem) (r : Int), Q_X11_searches x0 μ μ' r → Q μ' (some (kI r))
  | _ => False
theorem mono_X11_searches : Mono S_X11_searches := by
  intro as μ Q Q' h hS
  unfold S_X11_searches at hS ⊢
  split at hS
  · exact ⟨hS.1, fun μ' r q => h _ _ (hS.2 _ _ q)⟩
  · exact hS.elim
def iX11_searches : Inf := (kX11_searches, fTX11, pTX11, cTX11, lTX11, sTX11, [(310, 0, 0, 11, S_X11_minutes), (313, 0, 1, 11, S_X11_first), (320, 0, 2, 11, S_X11_goesOn), (317, 0, 0, 11, S_X11_isGood)])
theorem ok_X11_searches : infOK iX11_searches mX11_searches RX11 4 101 := ⟨kkX11_searches, fTX11_ok, pTX11_ok _, cTX11_ok, lTX11_ok, sTX11_ok, c_cons ⟨mX11_minutes, 1, 27, ct_X11_minutes, mmX11_minutes, vvX11_minutes, lkX11_310, ⟨by decide, by decide⟩, ⟨_, _, rfl⟩, by decide, mono_X11_minutes⟩ (c_cons ⟨mX11_first, 0, 0, ct_X11_first, mmX11_first, vvX11_first, lkX11_313, ⟨by decide, by decide⟩, ⟨_, _, rfl⟩, by decide, mono_X11_first⟩ (c_cons ⟨mX11_goesOn, 0, 0, ct_X11_goesOn, mmX11_goesOn, vvX11_goesOn, lkX11_320, ⟨by decide, by decide⟩, ⟨_, _, rfl⟩, by decide, mono_X11_goesOn⟩ (c_cons ⟨mX11_isGood, 3, 76, ct_X11_isGood, mmX11_isGood, vvX11_isGood, lkX11_317, ⟨by decide, by decide⟩, ⟨_, _, rfl⟩, by decide, mono_X11_isGood⟩ (c_nil))))⟩
theorem mt_X11_searches : mtOK [] RX11 4 101 := mt_nil
abbrev V_X11_searches (R : Mem → Option AV → Prop) (pc : Nat) (lc : List (Nat × AV)) (μ : Mem) : Prop := VM mX11_searches RX11 4 101 R pc lc [] μ
set_option maxRecDepth 20000 in
theorem vc_X11_searches_0 {R : Mem → Option AV → Prop} {μ : Mem} (H : P_X11_minutes 201 μ ∧ (∀ (μ1 : Mem), Q_X11_minutes 201 μ μ1 → V_X11_searches R 4 [(0, kR 201)] μ1)) : V_X11_searches R 0 [(0, kR 201)] μ := by
  refine vm_step2 mt_X11_searches ok_X11_searches [(4, [0]), (11, [0, 1]), (36, [0, 1]), (44, [0, 1]), (46, [0, 1, 2]), (62, [0, 1]), (64, [0, 1, 3])] 1000 ?_
  show isC 201 11 ∧ P_X11_minutes 201 μ ∧ (∀ (μ1 : Mem), Q_X11_minutes 201 μ μ1 → V_X11_searches R 4 [(0, kR 201)] μ1)
  exact ⟨c_201, H.1, fun μ1 hq3 => (H.2 μ1 hq3)⟩
set_option maxRecDepth 20000 in
theorem vc_X11_searches_4 {R : Mem → Option AV → Prop} {μ : Mem} (H : V_X11_searches R 11 [(0, kR 201), (1, kI 0)] (updm μ 201 22 0)) : V_X11_searches R 4 [(0, kR 201)] μ := by
  refine vm_step2 mt_X11_searches ok_X11_searches [(4, [0]), (11, [0, 1]), (36, [0, 1]), (44, [0, 1]), (46, [0, 1, 2]), (62, [0, 1]), (64, [0, 1, 3])] 1000 ?_
  show isC 201 11 ∧ 0 = 0 ∧ True ∧ V_X11_searches R 11 [(0, kR 201), (1, kI 0)] (updm μ 201 22 0)
  exact ⟨c_201, rfl, trivial, H⟩
set_option maxRecDepth 20000 in
theorem vc_X11_searches_11 {R : Mem → Option AV → Prop} {f : Int} {μ : Mem} (H : r32 f ∧ ((¬ f = 0) → (0 ≤ f ∧ f ≤ 1) ∧ R μ (some (kI f))) ∧ (¬ (¬ f = 0) → r32 (μ 201 22) ∧ r32 (μ 201 14) ∧ (((μ 201 14) ≤ (μ 201 22)) → (0 ≤ f ∧ f ≤ 1) ∧ R μ (some (kI f))) ∧ (¬ ((μ 201 14) ≤ (μ 201 22)) → V_X11_searches R 36 [(0, kR 201), (1, kI f)] (updm μ 201 22 ((μ 201 22) + 1))))) : V_X11_searches R 11 [(0, kR 201), (1, kI f)] μ := by
  refine vm_step2 mt_X11_searches ok_X11_searches [(4, [0]), (11, [0, 1]), (36, [0, 1]), (44, [0, 1]), (46, [0, 1, 2]), (62, [0, 1]), (64, [0, 1, 3])] 1000 ?_
  show r32 f ∧ ((¬ f = 0) → (0 ≤ f ∧ f ≤ 1) ∧ R μ (some (kI f))) ∧ (¬ (¬ f = 0) → isC 201 11 ∧ isC 201 11 ∧ (r32 (μ 201 22) ∧ r32 (μ 201 14)) ∧ (((μ 201 14) ≤ (μ 201 22)) → (0 ≤ f ∧ f ≤ 1) ∧ R μ (some (kI f))) ∧ (¬ ((μ 201 14) ≤ (μ 201 22)) → isC 201 11 ∧ isC 201 11 ∧ 0 = 0 ∧ True ∧ V_X11_searches R 36 [(0, kR 201), (1, kI f)] (updm μ 201 22 ((μ 201 22) + 1))))
  exact ⟨H.1, fun hc5 => (H.2.1 hc5), fun hc5 => ⟨c_201, ⟨c_201, ⟨⟨(H.2.2 hc5).1, (H.2.2 hc5).2.1⟩, fun hc4 => ((H.2.2 hc5).2.2.1 hc4), fun hc4 => ⟨c_201, ⟨c_201, rfl, trivial, ((H.2.2 hc5).2.2.2 hc4)⟩⟩⟩⟩⟩⟩
set_option maxRecDepth 20000 in
theorem vc_X11_searches_36 {R : Mem → Option AV → Prop} {f : Int} {μ : Mem} (H : P_X11_first 201 211 μ ∧ (∀ (μ6 : Mem), Q_X11_first 201 211 μ μ6 → V_X11_searches R 44 [(0, kR 201), (1, kI f)] μ6)) : V_X11_searches R 36 [(0, kR 201), (1, kI f)] μ := by
  refine vm_step2 mt_X11_searches ok_X11_searches [(4, [0]), (11, [0, 1]), (36, [0, 1]), (44, [0, 1]), (46, [0, 1, 2]), (62, [0, 1]), (64, [0, 1, 3])] 1000 ?_
  show isC 201 11 ∧ isC 201 11 ∧ P_X11_first 201 211 μ ∧ (∀ (μ6 : Mem), Q_X11_first 201 211 μ μ6 → V_X11_searches R 44 [(0, kR 201), (1, kI f)] μ6)
  exact ⟨c_201, ⟨c_201, H.1, fun μ6 hq8 => (H.2 μ6 hq8)⟩⟩
set_option maxRecDepth 20000 in
theorem vc_X11_searches_44 {R : Mem → Option AV → Prop} {f : Int} {μ : Mem} (H : V_X11_searches R 46 [(0, kR 201), (1, kI f), (2, kI 1)] μ) : V_X11_searches R 44 [(0, kR 201), (1, kI f)] μ := by
  refine vm_step2 mt_X11_searches ok_X11_searches [(4, [0]), (11, [0, 1]), (36, [0, 1]), (44, [0, 1]), (46, [0, 1, 2]), (62, [0, 1]), (64, [0, 1, 3])] 1000 ?_
  show V_X11_searches R 46 [(0, kR 201), (1, kI f), (2, kI 1)] μ
  exact H
set_option maxRecDepth 20000 in
theorem vc_X11_searches_46 {R : Mem → Option AV → Prop} {f mc : Int} {μ : Mem} (H : r32 mc ∧ ((mc = 0) → V_X11_searches R 11 [(0, kR 201), (1, kI f)] μ) ∧ (¬ (mc = 0) → r32 f ∧ ((¬ f = 0) → V_X11_searches R 11 [(0, kR 201), (1, kI f)] μ) ∧ (¬ (¬ f = 0) → P_X11_first 201 212 μ ∧ (∀ (μ9 : Mem), Q_X11_first 201 212 μ μ9 → V_X11_searches R 62 [(0, kR 201), (1, kI f)] μ9)))) : V_X11_searches R 46 [(0, kR 201), (1, kI f), (2, kI mc)] μ := by
  refine vm_step2 mt_X11_searches ok_X11_searches [(4, [0]), (11, [0, 1]), (36, [0, 1]), (44, [0, 1]), (46, [0, 1, 2]), (62, [0, 1]), (64, [0, 1, 3])] 1000 ?_
  show r32 mc ∧ ((mc = 0) → V_X11_searches R 11 [(0, kR 201), (1, kI f)] μ) ∧ (¬ (mc = 0) → r32 f ∧ ((¬ f = 0) → V_X11_searches R 11 [(0, kR 201), (1, kI f)] μ) ∧ (¬ (¬ f = 0) → isC 201 11 ∧ isC 201 11 ∧ P_X11_first 201 212 μ ∧ (∀ (μ9 : Mem), Q_X11_first 201 212 μ μ9 → V_X11_searches R 62 [(0, kR 201), (1, kI f)] μ9)))
  exact ⟨H.1, fun hc13 => (H.2.1 hc13), fun hc13 => ⟨(H.2.2 hc13).1, fun hc12 => ((H.2.2 hc13).2.1 hc12), fun hc12 => ⟨c_201, ⟨c_201, ((H.2.2 hc13).2.2 hc12).1, fun μ9 hq11 => (((H.2.2 hc13).2.2 hc12).2 μ9 hq11)⟩⟩⟩⟩
set_option maxRecDepth 20000 in
theorem vc_X11_searches_62 {R : Mem → Option AV → Prop} {f : Int} {μ : Mem} (H : V_X11_searches R 64 [(0, kR 201), (1, kI f), (3, kI 1)] μ) : V_X11_searches R 62 [(0, kR 201), (1, kI f)] μ := by
  refine vm_step2 mt_X11_searches ok_X11_searches [(4, [0]), (11, [0, 1]), (36, [0, 1]), (44, [0, 1]), (46, [0, 1, 2]), (62, [0, 1]), (64, [0, 1, 3])] 1000 ?_
  show V_X11_searches R 64 [(0, kR 201), (1, kI f), (3, kI 1)] μ
  exact H
set_option maxRecDepth 20000 in
theorem vc_X11_searches_64 {R : Mem → Option AV → Prop} {f mr : Int} {μ : Mem} (H : r32 mr ∧ ((mr = 0) → r32 f ∧ ((¬ f = 0) → V_X11_searches R 46 [(0, kR 201), (1, kI f), (2, kI 0)] μ) ∧ (¬ (¬ f = 0) → P_X11_goesOn 201 211 (μ 201 14) μ ∧ (∀ (μ14 : Mem) (rv15 : Int), Q_X11_goesOn 201 211 (μ 201 14) μ μ14 rv15 → r32 rv15 ∧ ((rv15 = 0) → V_X11_searches R 46 [(0, kR 201), (1, kI f), (2, kI 0)] μ14) ∧ (¬ (rv15 = 0) → V_X11_searches R 46 [(0, kR 201), (1, kI f), (2, kI 1)] μ14)))) ∧ (¬ (mr = 0) → r32 f ∧ ((¬ f = 0) → r32 f ∧ ((¬ f = 0) → V_X11_searches R 46 [(0, kR 201), (1, kI f), (2, kI 0)] μ) ∧ (¬ (¬ f = 0) → P_X11_goesOn 201 211 (μ 201 14) μ ∧ (∀ (μ19 : Mem) (rv20 : Int), Q_X11_goesOn 201 211 (μ 201 14) μ μ19 rv20 → r32 rv20 ∧ ((rv20 = 0) → V_X11_searches R 46 [(0, kR 201), (1, kI f), (2, kI 0)] μ19) ∧ (¬ (rv20 = 0) → V_X11_searches R 46 [(0, kR 201), (1, kI f), (2, kI 1)] μ19)))) ∧ (¬ (¬ f = 0) → P_X11_isGood 201 μ ∧ (∀ (μ24 : Mem) (rv25 : Int), Q_X11_isGood 201 μ μ24 rv25 → r32 rv25 ∧ ((¬ rv25 = 0) → V_X11_searches R 64 [(0, kR 201), (1, kI rv25), (3, kI 0)] μ24) ∧ (¬ (¬ rv25 = 0) → P_X11_goesOn 201 212 (μ24 201 19) μ24 ∧ (∀ (μ27 : Mem) (rv28 : Int), Q_X11_goesOn 201 212 (μ24 201 19) μ24 μ27 rv28 → r32 rv28 ∧ ((rv28 = 0) → V_X11_searches R 64 [(0, kR 201), (1, kI rv25), (3, kI 0)] μ27) ∧ (¬ (rv28 = 0) → V_X11_searches R 64 [(0, kR 201), (1, kI rv25), (3, kI 1)] μ27))))))) : V_X11_searches R 64 [(0, kR 201), (1, kI f), (3, kI mr)] μ := by
  refine vm_step2 mt_X11_searches ok_X11_searches [(4, [0]), (11, [0, 1]), (36, [0, 1]), (44, [0, 1]), (46, [0, 1, 2]), (62, [0, 1]), (64, [0, 1, 3])] 1000 ?_
  show r32 mr ∧ ((mr = 0) → r32 f ∧ ((¬ f = 0) → V_X11_searches R 46 [(0, kR 201), (1, kI f), (2, kI 0)] μ) ∧ (¬ (¬ f = 0) → isC 201 11 ∧ isC 201 11 ∧ isC 201 11 ∧ P_X11_goesOn 201 211 (μ 201 14) μ ∧ (∀ (μ14 : Mem) (rv15 : Int), Q_X11_goesOn 201 211 (μ 201 14) μ μ14 rv15 → r32 rv15 ∧ ((rv15 = 0) → V_X11_searches R 46 [(0, kR 201), (1, kI f), (2, kI 0)] μ14) ∧ (¬ (rv15 = 0) → V_X11_searches R 46 [(0, kR 201), (1, kI f), (2, kI 1)] μ14)))) ∧ (¬ (mr = 0) → r32 f ∧ ((¬ f = 0) → r32 f ∧ ((¬ f = 0) → V_X11_searches R 46 [(0, kR 201), (1, kI f), (2, kI 0)] μ) ∧ (¬ (¬ f = 0) → isC 201 11 ∧ isC 201 11 ∧ isC 201 11 ∧ P_X11_goesOn 201 211 (μ 201 14) μ ∧ (∀ (μ19 : Mem) (rv20 : Int), Q_X11_goesOn 201 211 (μ 201 14) μ μ19 rv20 → r32 rv20 ∧ ((rv20 = 0) → V_X11_searches R 46 [(0, kR 201), (1, kI f), (2, kI 0)] μ19) ∧ (¬ (rv20 = 0) → V_X11_searches R 46 [(0, kR 201), (1, kI f), (2, kI 1)] μ19)))) ∧ (¬ (¬ f = 0) → isC 201 11 ∧ P_X11_isGood 201 μ ∧ (∀ (μ24 : Mem) (rv25 : Int), Q_X11_isGood 201 μ μ24 rv25 → r32 rv25 ∧ ((¬ rv25 = 0) → V_X11_searches R 64 [(0, kR 201), (1, kI rv25), (3, kI 0)] μ24) ∧ (¬ (¬ rv25 = 0) → isC 201 11 ∧ isC 201 11 ∧ isC 201 11 ∧ P_X11_goesOn 201 212 (μ24 201 19) μ24 ∧ (∀ (μ27 : Mem) (rv28 : Int), Q_X11_goesOn 201 212 (μ24 201 19) μ24 μ27 rv28 → r32 rv28 ∧ ((rv28 = 0) → V_X11_searches R 64 [(0, kR 201), (1, kI rv25), (3, kI 0)] μ27) ∧ (¬ (rv28 = 0) → V_X11_searches R 64 [(0, kR 201), (1, kI rv25), (3, kI 1)] μ27))))))
  exact ⟨H.1, fun hc33 => ⟨(H.2.1 hc33).1, fun hc18 => ((H.2.1 hc33).2.1 hc18), fun hc18 => ⟨c_201, ⟨c_201, ⟨c_201, ((H.2.1 hc33).2.2 hc18).1, fun μ14 rv15 hq16 => ⟨(((H.2.1 hc33).2.2 hc18).2 μ14 rv15 hq16).1, fun hc17 => ((((H.2.1 hc33).2.2 hc18).2 μ14 rv15 hq16).2.1 hc17), fun hc17 => ((((H.2.1 hc33).2.2 hc18).2 μ14 rv15 hq16).2.2 hc17)⟩⟩⟩⟩⟩, fun hc33 => ⟨(H.2.2 hc33).1, fun hc32 => ⟨((H.2.2 hc33).2.1 hc32).1, fun hc23 => (((H.2.2 hc33).2.1 hc32).2.1 hc23), fun hc23 => ⟨c_201, ⟨c_201, ⟨c_201, (((H.2.2 hc33).2.1 hc32).2.2 hc23).1, fun μ19 rv20 hq21 => ⟨((((H.2.2 hc33).2.1 hc32).2.2 hc23).2 μ19 rv20 hq21).1, fun hc22 => (((((H.2.2 hc33).2.1 hc32).2.2 hc23).2 μ19 rv20 hq21).2.1 hc22), fun hc22 => (((((H.2.2 hc33).2.1 hc32).2.2 hc23).2 μ19 rv20 hq21).2.2 hc22)⟩⟩⟩⟩⟩, fun hc32 => ⟨c_201, ((H.2.2 hc33).2.2 hc32).1, fun μ24 rv25 hq26 => ⟨(((H.2.2 hc33).2.2 hc32).2 μ24 rv25 hq26).1, fun hc31 => ((((H.2.2 hc33).2.2 hc32).2 μ24 rv25 hq26).2.1 hc31), fun hc31 => ⟨c_201, ⟨c_201, ⟨c_201, ((((H.2.2 hc33).2.2 hc32).2 μ24 rv25 hq26).2.2 hc31).1, fun μ27 rv28 hq29 => ⟨(((((H.2.2 hc33).2.2 hc32).2 μ24 rv25 hq26).2.2 hc31).2 μ27 rv28 hq29).1, fun hc30 => ((((((H.2.2 hc33).2.2 hc32).2 μ24 rv25 hq26).2.2 hc31).2 μ27 rv28 hq29).2.1 hc30), fun hc30 => ((((((H.2.2 hc33).2.2 hc32).2 μ24 rv25 hq26).2.2 hc31).2 μ27 rv28 hq29).2.2 hc30)⟩⟩⟩⟩⟩⟩⟩⟩
theorem Pk_mono {k n n' : Int} {p : Int → Int} (h : Pk k n p) (hn : n ≤ n') : Pk k n' p := by
  unfold Pk at h ⊢
  omega
theorem body_X11_searches {o : Int} {μ : Mem} {R : Mem → Option AV → Prop} (h : P_X11_searches o μ) (hR : ∀ (μ' : Mem) (r : Int), Q_X11_searches o μ μ' r → R μ' (some (kI r))) : V_X11_searches R 0 [(0, kR o)] μ := by
  obtain ⟨rfl, s, gs⟩ := h
  have gs0 := gs
  obtain ⟨hs, hn, ⟨h14, h205⟩, hg⟩ := gs0
  refine vc_X11_searches_0 ⟨⟨rfl, s, gs⟩, fun m1 q => ?_⟩
  obtain ⟨q1, qf, qz⟩ := q
  obtain ⟨q19, qF⟩ := q1 s gs
  obtain ⟨n, en⟩ : ∃ n : Int, n = popc s := ⟨_, rfl⟩
  have sv := sv0_bd (n := popc s) (by omega) hn.2
  have hFb := FoundA_bd hg hn.2 qF
  have hgv := (gv_bd hg hn).1
  rw [← en] at hn h14 h205 q19 qF hFb sv
  obtain ⟨N, eN⟩ : ∃ N : Int, N = SV 0 n := ⟨_, rfl⟩
  rw [← eN] at q19 hFb sv
  obtain ⟨F, eF⟩ : ∃ F : Int → Int → Int, F = Fk m1 := ⟨_, rfl⟩
  rw [← eF] at qF hFb
  -- what each step keeps
  obtain ⟨G, eG⟩ : ∃ G : Mem → Prop, ∀ m, G m = (m 201 14 = n ∧ m 201 19 = N ∧ m 209 = m1 209 ∧ FldM μ m [19, 22, 27, 28] ∧ ∀ z : Int, z ≠ 201 → (z < 209 ∨ 214 < z) → m z = μ z) := ⟨_, fun _ => rfl⟩
  have fld : ∀ (m m' : Mem) (f : Int), FldM μ m [19, 22, 27, 28] → (∀ g : Int, g ≠ 22 → g ≠ 27 → g ≠ 28 → m' 201 g = m 201 g) → FldM μ m' [19, 22, 27, 28] := fun m m' f h g => by
    intro x hx
    simp only [List.mem_cons, List.not_mem_nil, or_false, not_or] at hx
    rw [g x hx.2.1 hx.2.2.1 hx.2.2.2]
    exact h x (by simp only [List.mem_cons, List.not_mem_nil, or_false, not_or]; exact hx)
  have Gk : ∀ (m m' : Mem), G m → (∀ g : Int, g ≠ 22 → g ≠ 27 → g ≠ 28 → m' 201 g = m 201 g) → (∀ z : Int, z ≠ 201 → z ≠ 211 → z ≠ 212 → z ≠ 213 → z ≠ 214 → m' z = m z) → G m' := fun m m' hg h1 h2 => by
    rw [eG] at hg ⊢
    obtain ⟨a, b, c, d, e⟩ := hg
    exact ⟨by rw [h1 14 (by omega) (by omega) (by omega), a], by rw [h1 19 (by omega) (by omega) (by omega), b], by rw [h2 209 (by omega) (by omega) (by omega) (by omega) (by omega), c], fld m m' 0 d h1, fun z z0 z1 => by rw [h2 z z0 (by omega) (by omega) (by omega) (by omega), e z z0 z1]⟩
  -- found
  have found : ∀ (m : Mem), G m → FirstK F n N (m 201 22) (m 211) (m 212) → m 201 27 = sgn (kerS F (m 201 22) (m 211) (m 212)) * kerD F (m 201 22) (m 211) (m 212) → m 201 28 = sgn (kerS F (m 201 22) (m 211) (m 212)) * kerS F (m 201 22) (m 211) (m 212) → (∀ i : Int, 0 ≤ i → i < m 201 22 → m 213 i = sgn (kerS F (m 201 22) (m 211) (m 212)) * kerC F (m 201 22) (m 211) (m 212) i ∧ m 214 i = sgn (kerS F (m 201 22) (m 211) (m 212)) * kerR F (m 201 22) (m 211) (m 212) i) → V_X11_searches R 11 [(0, kR 201), (1, kI 1)] m := fun m hG hK h27 h28 hs' => by
    refine vc_X11_searches_11 ⟨rr (by omega), fun _ => ⟨by omega, hR m 1 ?_⟩, fun c => absurd (show ¬ (1 : Int) = 0 by omega) c⟩
    rw [eG] at hG
    refine ⟨rfl, fun s' gs' => ?_, hG.2.2.2.1, hG.2.2.2.2⟩
    have gs1 := gs'
    obtain ⟨_, hn', ⟨h14', h205'⟩, hg'⟩ := gs'
    have en' : popc s' = n := by rw [← h14', h14]
    obtain ⟨_, qF'⟩ := q1 s' gs1
    rw [← eF] at qF'
    refine ⟨?_, by rw [en']; exact hK.1, by rw [en']; exact hK.2.1, Pk_mono hK.2.2.1 sv.2.2⟩
    refine gv_eq (by omega) ⟨F, m 211, m 212, qF', ?_, ?_⟩
    · rw [en', ← eN]; exact hK
    · unfold KSv
      refine congrArg (Prod.mk _) ?_
      show (m 201 27, m 201 28, _, _, clip (m 201 22) (m 213), clip (m 201 22) (m 214)) = _
      rw [h27, h28, clip_congr (fun i i0 i1 => (hs' i i0 i1).1), clip_congr (fun i i0 i1 => (hs' i i0 i1).2)]
  -- sizes
  have pk : ∀ k : Int, 0 ≤ k → k ≤ n → ∀ m : Mem, G m → m 201 22 = k → Bef F n N (k + 1) 0 0 → V_X11_searches R 11 [(0, kR 201), (1, kI 0)] m := by
    refine up_ind (P := fun k => ∀ m : Mem, G m → m 201 22 = k → Bef F n N (k + 1) 0 0 → V_X11_searches R 11 [(0, kR 201), (1, kI 0)] m) ?_ ?_
    · intro k' k0 kn ihk m hG h22 hbef
      obtain ⟨k, ek⟩ : ∃ k : Int, k = k' + 1 := ⟨_, rfl⟩
      rw [← ek] at ihk hbef
      have hG0 := hG
      rw [eG] at hG0
      refine vc_X11_searches_11 ?_
      rw [h22, hG0.1]
      refine ⟨rr (by omega), fun c => absurd rfl c, fun _ => ⟨rr (by omega), rr (by omega), fun c => absurd c (by omega), fun _ => ?_⟩⟩
      rw [← ek]
      have g2 : G (updm m 201 22 k) := Gk m _ hG (fun g a _ _ => by rw [ru_eq, r1_ne a]) (fun z a _ _ _ _ => ru_ne a)
      have e22 : updm m 201 22 k 201 22 = k := by rw [ru_eq, r1_eq]
      generalize updm m 201 22 k = m2 at g2 e22
      refine vc_X11_searches_36 ⟨⟨rfl, Or.inl rfl, by omega, by omega⟩, fun m6 q6 => vc_X11_searches_44 ?_⟩
      unfold Q_X11_first at q6
      rw [e22] at q6
      have pf1 := pk_first (p := m6 211) (n := n) (show 0 ≤ k by omega) (by omega) (by omega) q6.1
      have g6 : G m6 := Gk m2 m6 g2 (fun g _ _ _ => by rw [q6.2 201 (by omega)]) (fun z _ a _ _ _ => q6.2 z a)
      have e6 : m6 201 22 = k := by rw [q6.2 201 (by omega), e22]
      -- the choices of cellars
      have pi : ∀ (L : Nat) (m : Mem), G m → m 201 22 = k → Pk k n (m 211) → 331776 ≤ cod k (m 211) + L → Bef F n N k (cod k (m 211)) 0 → V_X11_searches R 46 [(0, kR 201), (1, kI 0), (2, kI 1)] m := by
        intro L
        induction L with
        | zero =>
          intro m _ _ hp hl _
          have := cod_bd hp (by omega) (by omega) (by omega)
          omega
        | succ L ihi =>
          intro m hG h22 hcp hL hbef
          obtain ⟨cpf, ecp⟩ : ∃ c : Int → Int, c = m 211 := ⟨_, rfl⟩
          rw [← ecp] at hcp hL hbef
          refine vc_X11_searches_46 ⟨rr (by omega), fun c => absurd c (by omega), fun _ => ⟨rr (by omega), fun c => absurd rfl c, fun _ => ⟨⟨rfl, Or.inr rfl, by omega, by omega⟩, fun m9 q9 => vc_X11_searches_62 ?_⟩⟩⟩
          unfold Q_X11_first at q9
          rw [h22] at q9
          have pf9 := pk_first (p := m9 212) (n := N) (show 0 ≤ k by omega) (by omega) (by omega) q9.1
          have g9 : G m9 := Gk m m9 hG (fun g _ _ _ => by rw [q9.2 201 (by omega)]) (fun z _ _ a _ _ => q9.2 z a)
          -- behind the last rows: the next cellars
          have nextC : ∀ m : Mem, G m → m 201 22 = k → m 211 = cpf → (∀ cp' rp' : Int → Int, Pk k n cp' → Pk k N rp' → (cod k cp' < cod k cpf ∨ cod k cp' = cod k cpf) → ¬ Good F n N k cp' rp') → V_X11_searches R 64 [(0, kR 201), (1, kI 0), (3, kI 0)] m := fun m hG h22 h211 hall => by
            have hG0 := hG
            rw [eG] at hG0
            refine vc_X11_searches_64 ?_
            rw [hG0.1]
            refine ⟨rr (by omega), fun _ => ⟨rr (by omega), fun c => absurd rfl c, fun _ => ⟨⟨rfl, Or.inl rfl, by omega, by omega, by rw [h22, h211]; exact hcp⟩, fun m14 r14 q14 => ?_⟩⟩, fun c => absurd rfl c⟩
            obtain ⟨q14, f14⟩ := q14
            rw [h22, h211] at q14
            have g14 : G m14 := Gk m m14 hG (fun g _ _ _ => by rw [f14 201 (by omega)]) (fun z _ a _ _ _ => f14 z a)
            have e14 : m14 201 22 = k := by rw [f14 201 (by omega), h22]
            rcases q14 with ⟨hr, hx⟩ | ⟨hr, hx, he⟩
            · subst hr
              have hnx := nx_ok hcp (by omega) (by omega) hx
              refine ⟨rr (by omega), fun c => absurd c (by omega), fun _ => ihi m14 g14 e14 hnx.1 (by omega) (fun k' cp' rp' a1 a2 a3 a4 a5 => ?_)⟩
              rcases a5 with a5 | ⟨a5, a6⟩
              · exact hbef k' cp' rp' a1 a2 a3 a4 (Or.inl a5)
              · subst a5
                have cb := cod_bd a4 sv.2.2 (by omega) (by omega)
                refine hall cp' rp' a3 a4 ?_
                by_cases c2 : cod k' cpf < cod k' cp'
                · have := hnx.2.2 cp' a3 c2; omega
                · omega
            · subst hr
              have hen := nx_end hcp (by omega) (by omega) he
              refine ⟨rr (by omega), fun _ => vc_X11_searches_46 ⟨rr (by omega), fun _ => ihk m14 g14 e14 (fun k' cp' rp' a1 a2 a3 a4 a5 => ?_), fun c => absurd rfl c⟩, fun c => absurd rfl c⟩
              by_cases a6 : k' = k
              · subst a6
                have := hen cp' a3
                exact hall cp' rp' a3 a4 (by omega)
              · refine hbef k' cp' rp' a1 a2 a3 a4 (Or.inl ?_)
                rcases a5 with a5 | ⟨a5, a7⟩
                · omega
                · subst a5
                  have cb := cod_bd a3 (show n ≤ 24 by omega) (by omega) (by omega)
                  have cb2 := cod_bd a4 sv.2.2 (by omega) (by omega)
                  omega
          -- the choices of rows
          have pj : ∀ (L : Nat) (m : Mem), G m → m 201 22 = k → m 211 = cpf → Pk k N (m 212) → 331776 ≤ cod k (m 212) + L → Bef F n N k (cod k cpf) (cod k (m 212)) → V_X11_searches R 64 [(0, kR 201), (1, kI 0), (3, kI 1)] m := by
            intro L
            induction L with
            | zero =>
              intro m _ _ _ hp hl _
              have := cod_bd hp (by omega) (by omega) (by omega)
              omega
            | succ L ihj =>
              intro m hG h22 h211 hrp hL hbf
              obtain ⟨rpf, erp⟩ : ∃ c : Int → Int, c = m 212 := ⟨_, rfl⟩
              rw [← erp] at hrp hL hbf
              have hG0 := hG
              rw [eG] at hG0
              have eFm : Fk m = F := by unfold Fk; rw [hG0.2.2.1, eF]; rfl
              have kb : KB m := by
                unfold KB
                rw [h22, hG0.1, hG0.2.1, eFm, h211, ← erp]
                exact ⟨by omega, by omega, hFb, hcp, hrp⟩
              refine vc_X11_searches_64 ⟨rr (by omega), fun c => absurd c (by omega), fun _ => ⟨rr (by omega), fun c => absurd rfl c, fun _ => ⟨⟨rfl, kb⟩, fun m24 r24 q24 => ?_⟩⟩⟩
              obtain ⟨q24, f24, z24⟩ := q24
              unfold GoodM sgM at q24
              rw [eFm, h22, hG0.1, hG0.2.1, h211, ← erp] at q24
              have g24 : G m24 := Gk m m24 hG (fun g _ a b => f24 g a b) (fun z a _ _ b c => z24 z a b c)
              have e24 : m24 201 22 = k := by rw [f24 22 (by omega) (by omega), h22]
              have c24 : m24 211 = cpf := by rw [z24 211 (by omega) (by omega) (by omega), h211]
              have r212 : m24 212 = rpf := by rw [z24 212 (by omega) (by omega) (by omega), erp]
              rcases q24 with ⟨hr, hgood, h27, h28, hsh⟩ | ⟨hr, hng⟩
              · subst hr
                refine ⟨rr (by omega), fun _ => ?_, fun c => absurd (show ¬ (1 : Int) = 0 by omega) c⟩
                refine vc_X11_searches_64 ⟨rr (by omega), fun _ => ⟨rr (by omega), fun _ => vc_X11_searches_46 ⟨rr (by omega), fun _ => found m24 g24 ?_ ?_ ?_ ?_, fun c => absurd rfl c⟩, fun c => absurd (show ¬ (1 : Int) = 0 by omega) c⟩, fun c => absurd rfl c⟩
                · rw [e24, c24, r212]
                  exact ⟨by omega, hcp, hrp, hgood, hbf⟩
                · rw [e24, c24, r212]; exact h27
                · rw [e24, c24, r212]; exact h28
                · rw [e24, c24, r212]; exact hsh
              · subst hr
                have hG24 := g24
                rw [eG] at hG24
                rw [hG24.2.1]
                have all : ∀ (rc : Int), (∀ rp', Pk k N rp' → cod k rp' < rc → cod k rp' ≤ cod k rpf) → Bef F n N k (cod k cpf) rc := by
                  intro rc hrc k' cp' rp' a1 a2 a3 a4 a5
                  rcases a5 with a5 | ⟨a5, a6⟩
                  · exact hbf k' cp' rp' a1 a2 a3 a4 (Or.inl a5)
                  · subst a5
                    rcases a6 with a6 | ⟨a6, a7⟩
                    · exact hbf k' cp' rp' a1 a2 a3 a4 (Or.inr ⟨rfl, Or.inl a6⟩)
                    · have := hrc rp' a4 a7
                      by_cases c2 : cod k' rp' < cod k' rpf
                      · exact hbf k' cp' rp' a1 a2 a3 a4 (Or.inr ⟨rfl, Or.inr ⟨a6, c2⟩⟩)
                      · intro hgd
                        have x1 := cod_inj a3 hcp (by omega) (by omega) a6
                        have x2 := cod_inj a4 hrp sv.2.2 (by omega) (by omega)
                        refine hng (Good_congr hgd a1 (by omega) (fun i i0 i1 => ?_) (fun i i0 i1 => ?_) (fun i i0 i1 => (x1 i i0 i1).symm) (fun i i0 i1 => (x2 i i0 i1).symm) (fun _ _ _ _ _ _ => rfl)).1
                        · have := Pk_at a3 (by omega) i0 i1; omega
                        · have := Pk_at a4 (by omega) i0 i1; omega
                refine ⟨rr (by omega), fun c => absurd rfl c, fun _ => ⟨⟨rfl, Or.inr rfl, by omega, by omega, by rw [e24, r212]; exact hrp⟩, fun m27 r27 q27 => ?_⟩⟩
                obtain ⟨q27, f27⟩ := q27
                rw [e24, r212] at q27
                have g27 : G m27 := Gk m24 m27 g24 (fun g _ _ _ => by rw [f27 201 (by omega)]) (fun z _ _ a _ _ => f27 z a)
                have e27 : m27 201 22 = k := by rw [f27 201 (by omega), e24]
                have c27 : m27 211 = cpf := by rw [f27 211 (by omega), c24]
                rcases q27 with ⟨hr, hx⟩ | ⟨hr, hx, he⟩
                · subst hr
                  have hnx := nx_ok hrp sv.2.2 (by omega) hx
                  refine ⟨rr (by omega), fun c => absurd c (by omega), fun _ => ihj m27 g27 e27 c27 hnx.1 (by omega) (all _ (fun rp' hp' hl => ?_))⟩
                  by_cases c2 : cod k rpf < cod k rp'
                  · have := hnx.2.2 rp' hp' c2; omega
                  · omega
                · subst hr
                  have hen := nx_end hrp (by omega) (by omega) he
                  have hall := all 331776 (fun rp' hp' _ => hen rp' hp')
                  refine ⟨rr (by omega), fun _ => nextC m27 g27 e27 c27 (fun cp' rp' a3 a4 a5 => ?_), fun c => absurd rfl c⟩
                  have cb := cod_bd a4 sv.2.2 (by omega) (by omega)
                  exact hall k cp' rp' (by omega) (by omega) a3 a4 (Or.inr ⟨rfl, by omega⟩)
          have cbr := cod_bd pf9.1 sv.2.2 (by omega) (by omega)
          refine pj 331776 m9 g9 (by rw [q9.2 201 (by omega), h22]) (by rw [q9.2 211 (by omega), ecp]) pf9.1 (by omega) (fun k' cp' rp' a1 a2 a3 a4 a5 => ?_)
          rcases a5 with a5 | ⟨a5, a6⟩
          · exact hbef k' cp' rp' a1 a2 a3 a4 (Or.inl a5)
          · subst a5
            rcases a6 with a6 | ⟨a6, a7⟩
            · exact hbef k' cp' rp' a1 a2 a3 a4 (Or.inr ⟨rfl, Or.inl a6⟩)
            · have := pf9.2 rp' a4
              omega
      have cbr := cod_bd pf1.1 (show n ≤ 24 by omega) (by omega) (by omega)
      refine pi 331776 m6 g6 e6 pf1.1 (by omega) (fun k' cp' rp' a1 a2 a3 a4 a5 => ?_)
      rcases a5 with a5 | ⟨a5, a6⟩
      · exact hbef k' cp' rp' a1 a2 a3 a4 (Or.inl a5)
      · subst a5
        have := pf1.2 cp' a3
        have cb := cod_bd a4 sv.2.2 (by omega) (by omega)
        omega
    · intro m hG h22 hbef
      obtain ⟨F', cp', rp', x1, x2, _⟩ := hgv
      have hu := FoundA_uniq (by omega) (show popc s ≤ 4 by omega) x1 (F' := F) (by rw [← en]; exact qF)
      rw [← en] at x2 hu
      rw [← eN] at x2 hu
      have fk := (FirstK_congr (by omega) hu x2).1
      exact absurd fk.2.2.2.1 (hbef _ cp' rp' fk.1.1 fk.1.2 fk.2.1 fk.2.2.1 (Or.inl (by have := fk.1.2; omega)))
  refine vc_X11_searches_4 (pk 0 (by omega) (by omega) _ ?_ (by rw [ru_eq, r1_eq]) (fun k' cp' rp' a1 a2 a3 a4 a5 => ?_))
  · rw [eG]
    refine ⟨by rw [ru_eq, r1_ne (by omega), qf 14 (by omega), h14], by rw [ru_eq, r1_ne (by omega), q19], by rw [ru_ne (by omega)], fun x hx => ?_, fun z z0 z1 => by rw [ru_ne z0, qz z z0 (by omega) (by omega)]⟩
    simp only [List.mem_cons, List.not_mem_nil, or_false, not_or] at hx
    rw [ru_eq, r1_ne hx.2.1, qf x hx.1]
  · rcases a5 with a5 | ⟨a5, a6⟩
    · omega
    · have ek : k' = 1 := by omega
      subst ek
      have cb := cod_bd a3 (show n ≤ 24 by omega) (by omega) (by omega)
      have cb2 := cod_bd a4 sv.2.2 (by omega) (by omega)
      have e1 : (0 : Int) + 1 = 1 := rfl
      rw [e1] at a6
      omega
theorem ct_X11_searches : Ct mX11_searches 4 101 0 0 (nrmS S_X11_searches) := by
  refine ct_vm (own := RX11) (by decide +kernel) rfl ?_ ?_
  · intro as μ Q hS
    unfold S_X11_searches at hS
    split at hS
    · exact Nat.le_of_ble_eq_true rfl
    · exact hS.elim
  · intro as μ R hS
    unfold S_X11_searches at hS
    split at hS
    · exact body_X11_searches hS.1 hS.2
    · exact hS.elim
