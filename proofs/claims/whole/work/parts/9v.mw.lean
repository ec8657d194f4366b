/-- the model as it is made -/
def MdK (k : Nat) (μ : Mem) : Prop := ObR 11 k μ ∧ (∀ y : Int, (k : Int) + 1 < y → y ≤ (k : Int) + 30 → μ y = fun _ => 0) ∧ ∀ j : Int, μ ((k : Int) + 1) j = if j = 4 then -1 else 0
def S_MD : Sp := fun n as μ Q => ∃ k : Nat, as = [kR k] ∧ k ∈ ([201] : List Nat) ∧ n = k + 1 ∧ μ k = dfl 11 ∧ ∀ μ' : Mem, Frm k 30 μ μ' → MdK k μ' → Q μ' none
theorem S_MD_mk {n : Nat} {as : List AV} {μ : Mem} {Q : Mem → Option AV → Prop} (k : Nat) (h1 : as = [kR k]) (h2 : k ∈ ([201] : List Nat)) (h3 : n = k + 1) (h4 : μ k = dfl 11) (h5 : ∀ μ' : Mem, Frm k 30 μ μ' → MdK k μ' → Q μ' none) : S_MD n as μ Q := ⟨k, h1, h2, h3, h4, h5⟩
theorem la_X11 : ∀ k ∈ ([201] : List Nat), LAY k = (21, 52) ∧ arrsB (k + 1) [(0, 5160), (3, 3), (0, 104), (0, 7), (0, 64), (0, 128), (0, 1024), (0, 96), (0, 4), (0, 4), (0, 4), (1, 4), (1, 4), (0, 8), (0, 8), (0, 8), (0, 8), (0, 8), (0, 64), (1, 65), (0, 8), (1, 48), (1, 6), (0, 5), (0, 5), (0, 8), (0, 2304), (0, 256), (1, 8), (1, 8)] = true := by decide +kernel
set_option maxRecDepth 20000 in
theorem ct_X11_init : Ct mX11_init 1 12 30 9431 S_MD := by
  refine ct_of (own := RX11) (by decide +kernel) rfl ?_ ?_
  · intro n as μ Q hS
    obtain ⟨k, rfl, -⟩ := hS
    exact Nat.le_of_ble_eq_true rfl
  · intro G n as μ Q hS
    obtain ⟨k, rfl, hz, rfl, h0, hQ⟩ := hS
    obtain ⟨hK, hA⟩ := la_X11 k hz
    generalize hn : k + 1 = n at hA ⊢
    obtain ⟨hL1, hA⟩ := arrs_s hA
    obtain ⟨hL2, hA⟩ := arrs_s hA
    obtain ⟨hL3, hA⟩ := arrs_s hA
    obtain ⟨hL4, hA⟩ := arrs_s hA
    obtain ⟨hL5, hA⟩ := arrs_s hA
    obtain ⟨hL6, hA⟩ := arrs_s hA
    obtain ⟨hL7, hA⟩ := arrs_s hA
    obtain ⟨hL8, hA⟩ := arrs_s hA
    obtain ⟨hL9, hA⟩ := arrs_s hA
    obtain ⟨hL10, hA⟩ := arrs_s hA
    obtain ⟨hL11, hA⟩ := arrs_s hA
    obtain ⟨hL12, hA⟩ := arrs_s hA
    obtain ⟨hL13, hA⟩ := arrs_s hA
    obtain ⟨hL14, hA⟩ := arrs_s hA
    obtain ⟨hL15, hA⟩ := arrs_s hA
    obtain ⟨hL16, hA⟩ := arrs_s hA
    obtain ⟨hL17, hA⟩ := arrs_s hA
    obtain ⟨hL18, hA⟩ := arrs_s hA
    obtain ⟨hL19, hA⟩ := arrs_s hA
    obtain ⟨hL20, hA⟩ := arrs_s hA
    obtain ⟨hL21, hA⟩ := arrs_s hA
    obtain ⟨hL22, hA⟩ := arrs_s hA
    obtain ⟨hL23, hA⟩ := arrs_s hA
    obtain ⟨hL24, hA⟩ := arrs_s hA
    obtain ⟨hL25, hA⟩ := arrs_s hA
    obtain ⟨hL26, hA⟩ := arrs_s hA
    obtain ⟨hL27, hA⟩ := arrs_s hA
    obtain ⟨hL28, hA⟩ := arrs_s hA
    obtain ⟨hL29, hA⟩ := arrs_s hA
    obtain ⟨hL30, hA⟩ := arrs_s hA
    refine k_aload_n (i := 0) (v := kR k) (Nat.le_refl 2) rfl (by decide +kernel) ?_
    refine k_objinit (idx := 1) (by omega) (in_ok (i := 1242) (by decide +kernel) rfl) (in_ok (i := 23) (by decide +kernel) rfl) (in_ok (i := 24) (by decide +kernel) rfl) (by decide) (by decide) rfl (by decide +kernel) ?_
    refine k_aload_n (i := 0) (v := kR k) (Nat.le_refl 2) rfl (by decide +kernel) ?_
    refine k_sipush (c := 5160) (by omega) (by decide +kernel) ?_
    refine k_newarray (a := .int) (N := 5160) rfl (by omega) (by decide) AR_int hL1 (by omega) (by omega) (by decide +kernel) ?_
    refine k_putfield (idx := 7) (ci := 11) (f := 0) (pk_f (i := 1243) (RX11, TX11, 52) rfl (by decide) rfl rfl (by decide +kernel) rfl rfl) (atO_k hK (by omega) (by decide)) trivial (by decide +kernel) ?_
    refine k_aload_n (i := 0) (v := kR k) (Nat.le_refl 2) rfl (by decide +kernel) ?_
    refine k_iconst (c := 3) (by decide +kernel) ?_
    refine k_newarray (a := .boolean) (N := 3) rfl (by omega) (by decide) AR_boolean hL2 (by omega) (by omega) (by decide +kernel) ?_
    refine k_putfield (idx := 13) (ci := 11) (f := 1) (pk_f (i := 1244) (RX11, TX11, 52) rfl (by decide) rfl rfl (by decide +kernel) rfl rfl) (atO_k hK (by omega) (by decide)) trivial (by decide +kernel) ?_
    refine k_aload_n (i := 0) (v := kR k) (Nat.le_refl 2) rfl (by decide +kernel) ?_
    refine k_bipush (c := 104) (by omega) (by decide +kernel) ?_
    refine k_newarray (a := .int) (N := 104) rfl (by omega) (by decide) AR_int hL3 (by omega) (by omega) (by decide +kernel) ?_
    refine k_putfield (idx := 17) (ci := 11) (f := 10) (pk_f (i := 1253) (RX11, TX11, 52) rfl (by decide) rfl rfl (by decide +kernel) rfl rfl) (atO_k hK (by omega) (by decide)) trivial (by decide +kernel) ?_
    refine k_aload_n (i := 0) (v := kR k) (Nat.le_refl 2) rfl (by decide +kernel) ?_
    refine k_bipush (c := 7) (by omega) (by decide +kernel) ?_
    refine k_newarray (a := .int) (N := 7) rfl (by omega) (by decide) AR_int hL4 (by omega) (by omega) (by decide +kernel) ?_
    refine k_putfield (idx := 20) (ci := 11) (f := 15) (pk_f (i := 1258) (RX11, TX11, 52) rfl (by decide) rfl rfl (by decide +kernel) rfl rfl) (atO_k hK (by omega) (by decide)) trivial (by decide +kernel) ?_
    refine k_aload_n (i := 0) (v := kR k) (Nat.le_refl 2) rfl (by decide +kernel) ?_
    refine k_bipush (c := 64) (by omega) (by decide +kernel) ?_
    refine k_newarray (a := .int) (N := 64) rfl (by omega) (by decide) AR_int hL5 (by omega) (by omega) (by decide +kernel) ?_
    refine k_putfield (idx := 23) (ci := 11) (f := 16) (pk_f (i := 1259) (RX11, TX11, 52) rfl (by decide) rfl rfl (by decide +kernel) rfl rfl) (atO_k hK (by omega) (by decide)) trivial (by decide +kernel) ?_
    refine k_aload_n (i := 0) (v := kR k) (Nat.le_refl 2) rfl (by decide +kernel) ?_
    refine k_sipush (c := 128) (by omega) (by decide +kernel) ?_
    refine k_newarray (a := .int) (N := 128) rfl (by omega) (by decide) AR_int hL6 (by omega) (by omega) (by decide +kernel) ?_
    refine k_putfield (idx := 26) (ci := 11) (f := 17) (pk_f (i := 1260) (RX11, TX11, 52) rfl (by decide) rfl rfl (by decide +kernel) rfl rfl) (atO_k hK (by omega) (by decide)) trivial (by decide +kernel) ?_
    refine k_aload_n (i := 0) (v := kR k) (Nat.le_refl 2) rfl (by decide +kernel) ?_
    refine k_sipush (c := 1024) (by omega) (by decide +kernel) ?_
    refine k_newarray (a := .int) (N := 1024) rfl (by omega) (by decide) AR_int hL7 (by omega) (by omega) (by decide +kernel) ?_
    refine k_putfield (idx := 29) (ci := 11) (f := 18) (pk_f (i := 1261) (RX11, TX11, 52) rfl (by decide) rfl rfl (by decide +kernel) rfl rfl) (atO_k hK (by omega) (by decide)) trivial (by decide +kernel) ?_
    refine k_aload_n (i := 0) (v := kR k) (Nat.le_refl 2) rfl (by decide +kernel) ?_
    refine k_bipush (c := 96) (by omega) (by decide +kernel) ?_
    refine k_newarray (a := .int) (N := 96) rfl (by omega) (by decide) AR_int hL8 (by omega) (by omega) (by decide +kernel) ?_
    refine k_putfield (idx := 32) (ci := 11) (f := 20) (pk_f (i := 1263) (RX11, TX11, 52) rfl (by decide) rfl rfl (by decide +kernel) rfl rfl) (atO_k hK (by omega) (by decide)) trivial (by decide +kernel) ?_
    refine k_aload_n (i := 0) (v := kR k) (Nat.le_refl 2) rfl (by decide +kernel) ?_
    refine k_iconst (c := 4) (by decide +kernel) ?_
    refine k_newarray (a := .int) (N := 4) rfl (by omega) (by decide) AR_int hL9 (by omega) (by omega) (by decide +kernel) ?_
    refine k_putfield (idx := 35) (ci := 11) (f := 21) (pk_f (i := 1264) (RX11, TX11, 52) rfl (by decide) rfl rfl (by decide +kernel) rfl rfl) (atO_k hK (by omega) (by decide)) trivial (by decide +kernel) ?_
    refine k_aload_n (i := 0) (v := kR k) (Nat.le_refl 2) rfl (by decide +kernel) ?_
    refine k_iconst (c := 4) (by decide +kernel) ?_
    refine k_newarray (a := .int) (N := 4) rfl (by omega) (by decide) AR_int hL10 (by omega) (by omega) (by decide +kernel) ?_
    refine k_putfield (idx := 38) (ci := 11) (f := 23) (pk_f (i := 1266) (RX11, TX11, 52) rfl (by decide) rfl rfl (by decide +kernel) rfl rfl) (atO_k hK (by omega) (by decide)) trivial (by decide +kernel) ?_
    refine k_aload_n (i := 0) (v := kR k) (Nat.le_refl 2) rfl (by decide +kernel) ?_
    refine k_iconst (c := 4) (by decide +kernel) ?_
    refine k_newarray (a := .int) (N := 4) rfl (by omega) (by decide) AR_int hL11 (by omega) (by omega) (by decide +kernel) ?_
    refine k_putfield (idx := 41) (ci := 11) (f := 24) (pk_f (i := 1267) (RX11, TX11, 52) rfl (by decide) rfl rfl (by decide +kernel) rfl rfl) (atO_k hK (by omega) (by decide)) trivial (by decide +kernel) ?_
    refine k_aload_n (i := 0) (v := kR k) (Nat.le_refl 2) rfl (by decide +kernel) ?_
    refine k_iconst (c := 4) (by decide +kernel) ?_
    refine k_newarray (a := .long) (N := 4) rfl (by omega) (by decide) AR_long hL12 (by omega) (by omega) (by decide +kernel) ?_
    refine k_putfield (idx := 44) (ci := 11) (f := 25) (pk_f (i := 1268) (RX11, TX11, 52) rfl (by decide) rfl rfl (by decide +kernel) rfl rfl) (atO_k hK (by omega) (by decide)) trivial (by decide +kernel) ?_
    refine k_aload_n (i := 0) (v := kR k) (Nat.le_refl 2) rfl (by decide +kernel) ?_
    refine k_iconst (c := 4) (by decide +kernel) ?_
    refine k_newarray (a := .long) (N := 4) rfl (by omega) (by decide) AR_long hL13 (by omega) (by omega) (by decide +kernel) ?_
    refine k_putfield (idx := 48) (ci := 11) (f := 26) (pk_f (i := 1269) (RX11, TX11, 52) rfl (by decide) rfl rfl (by decide +kernel) rfl rfl) (atO_k hK (by omega) (by decide)) trivial (by decide +kernel) ?_
    refine k_aload_n (i := 0) (v := kR k) (Nat.le_refl 2) rfl (by decide +kernel) ?_
    refine k_bipush (c := 8) (by omega) (by decide +kernel) ?_
    refine k_newarray (a := .int) (N := 8) rfl (by omega) (by decide) AR_int hL14 (by omega) (by omega) (by decide +kernel) ?_
    refine k_putfield (idx := 51) (ci := 11) (f := 29) (pk_f (i := 1272) (RX11, TX11, 52) rfl (by decide) rfl rfl (by decide +kernel) rfl rfl) (atO_k hK (by omega) (by decide)) trivial (by decide +kernel) ?_
    refine k_aload_n (i := 0) (v := kR k) (Nat.le_refl 2) rfl (by decide +kernel) ?_
    refine k_bipush (c := 8) (by omega) (by decide +kernel) ?_
    refine k_newarray (a := .int) (N := 8) rfl (by omega) (by decide) AR_int hL15 (by omega) (by omega) (by decide +kernel) ?_
    refine k_putfield (idx := 54) (ci := 11) (f := 30) (pk_f (i := 1273) (RX11, TX11, 52) rfl (by decide) rfl rfl (by decide +kernel) rfl rfl) (atO_k hK (by omega) (by decide)) trivial (by decide +kernel) ?_
    refine k_aload_n (i := 0) (v := kR k) (Nat.le_refl 2) rfl (by decide +kernel) ?_
    refine k_bipush (c := 8) (by omega) (by decide +kernel) ?_
    refine k_newarray (a := .int) (N := 8) rfl (by omega) (by decide) AR_int hL16 (by omega) (by omega) (by decide +kernel) ?_
    refine k_putfield (idx := 57) (ci := 11) (f := 31) (pk_f (i := 1274) (RX11, TX11, 52) rfl (by decide) rfl rfl (by decide +kernel) rfl rfl) (atO_k hK (by omega) (by decide)) trivial (by decide +kernel) ?_
    refine k_aload_n (i := 0) (v := kR k) (Nat.le_refl 2) rfl (by decide +kernel) ?_
    refine k_bipush (c := 8) (by omega) (by decide +kernel) ?_
    refine k_newarray (a := .int) (N := 8) rfl (by omega) (by decide) AR_int hL17 (by omega) (by omega) (by decide +kernel) ?_
    refine k_putfield (idx := 60) (ci := 11) (f := 32) (pk_f (i := 1275) (RX11, TX11, 52) rfl (by decide) rfl rfl (by decide +kernel) rfl rfl) (atO_k hK (by omega) (by decide)) trivial (by decide +kernel) ?_
    refine k_aload_n (i := 0) (v := kR k) (Nat.le_refl 2) rfl (by decide +kernel) ?_
    refine k_bipush (c := 8) (by omega) (by decide +kernel) ?_
    refine k_newarray (a := .int) (N := 8) rfl (by omega) (by decide) AR_int hL18 (by omega) (by omega) (by decide +kernel) ?_
    refine k_putfield (idx := 63) (ci := 11) (f := 33) (pk_f (i := 1276) (RX11, TX11, 52) rfl (by decide) rfl rfl (by decide +kernel) rfl rfl) (atO_k hK (by omega) (by decide)) trivial (by decide +kernel) ?_
    refine k_aload_n (i := 0) (v := kR k) (Nat.le_refl 2) rfl (by decide +kernel) ?_
    refine k_bipush (c := 64) (by omega) (by decide +kernel) ?_
    refine k_newarray (a := .int) (N := 64) rfl (by omega) (by decide) AR_int hL19 (by omega) (by omega) (by decide +kernel) ?_
    refine k_putfield (idx := 66) (ci := 11) (f := 35) (pk_f (i := 1278) (RX11, TX11, 52) rfl (by decide) rfl rfl (by decide +kernel) rfl rfl) (atO_k hK (by omega) (by decide)) trivial (by decide +kernel) ?_
    refine k_aload_n (i := 0) (v := kR k) (Nat.le_refl 2) rfl (by decide +kernel) ?_
    refine k_bipush (c := 65) (by omega) (by decide +kernel) ?_
    refine k_newarray (a := .long) (N := 65) rfl (by omega) (by decide) AR_long hL20 (by omega) (by omega) (by decide +kernel) ?_
    refine k_putfield (idx := 69) (ci := 11) (f := 36) (pk_f (i := 1279) (RX11, TX11, 52) rfl (by decide) rfl rfl (by decide +kernel) rfl rfl) (atO_k hK (by omega) (by decide)) trivial (by decide +kernel) ?_
    refine k_aload_n (i := 0) (v := kR k) (Nat.le_refl 2) rfl (by decide +kernel) ?_
    refine k_bipush (c := 8) (by omega) (by decide +kernel) ?_
    refine k_newarray (a := .int) (N := 8) rfl (by omega) (by decide) AR_int hL21 (by omega) (by omega) (by decide +kernel) ?_
    refine k_putfield (idx := 72) (ci := 11) (f := 37) (pk_f (i := 1280) (RX11, TX11, 52) rfl (by decide) rfl rfl (by decide +kernel) rfl rfl) (atO_k hK (by omega) (by decide)) trivial (by decide +kernel) ?_
    refine k_aload_n (i := 0) (v := kR k) (Nat.le_refl 2) rfl (by decide +kernel) ?_
    refine k_bipush (c := 48) (by omega) (by decide +kernel) ?_
    refine k_newarray (a := .long) (N := 48) rfl (by omega) (by decide) AR_long hL22 (by omega) (by omega) (by decide +kernel) ?_
    refine k_putfield (idx := 75) (ci := 11) (f := 38) (pk_f (i := 1281) (RX11, TX11, 52) rfl (by decide) rfl rfl (by decide +kernel) rfl rfl) (atO_k hK (by omega) (by decide)) trivial (by decide +kernel) ?_
    refine k_aload_n (i := 0) (v := kR k) (Nat.le_refl 2) rfl (by decide +kernel) ?_
    refine k_bipush (c := 6) (by omega) (by decide +kernel) ?_
    refine k_newarray (a := .long) (N := 6) rfl (by omega) (by decide) AR_long hL23 (by omega) (by omega) (by decide +kernel) ?_
    refine k_putfield (idx := 78) (ci := 11) (f := 39) (pk_f (i := 1282) (RX11, TX11, 52) rfl (by decide) rfl rfl (by decide +kernel) rfl rfl) (atO_k hK (by omega) (by decide)) trivial (by decide +kernel) ?_
    refine k_aload_n (i := 0) (v := kR k) (Nat.le_refl 2) rfl (by decide +kernel) ?_
    refine k_iconst (c := 5) (by decide +kernel) ?_
    refine k_newarray (a := .int) (N := 5) rfl (by omega) (by decide) AR_int hL24 (by omega) (by omega) (by decide +kernel) ?_
    refine k_putfield (idx := 81) (ci := 11) (f := 40) (pk_f (i := 1283) (RX11, TX11, 52) rfl (by decide) rfl rfl (by decide +kernel) rfl rfl) (atO_k hK (by omega) (by decide)) trivial (by decide +kernel) ?_
    refine k_aload_n (i := 0) (v := kR k) (Nat.le_refl 2) rfl (by decide +kernel) ?_
    refine k_iconst (c := 5) (by decide +kernel) ?_
    refine k_newarray (a := .int) (N := 5) rfl (by omega) (by decide) AR_int hL25 (by omega) (by omega) (by decide +kernel) ?_
    refine k_putfield (idx := 84) (ci := 11) (f := 41) (pk_f (i := 1284) (RX11, TX11, 52) rfl (by decide) rfl rfl (by decide +kernel) rfl rfl) (atO_k hK (by omega) (by decide)) trivial (by decide +kernel) ?_
    refine k_aload_n (i := 0) (v := kR k) (Nat.le_refl 2) rfl (by decide +kernel) ?_
    refine k_bipush (c := 8) (by omega) (by decide +kernel) ?_
    refine k_newarray (a := .int) (N := 8) rfl (by omega) (by decide) AR_int hL26 (by omega) (by omega) (by decide +kernel) ?_
    refine k_putfield (idx := 87) (ci := 11) (f := 44) (pk_f (i := 1287) (RX11, TX11, 52) rfl (by decide) rfl rfl (by decide +kernel) rfl rfl) (atO_k hK (by omega) (by decide)) trivial (by decide +kernel) ?_
    refine k_aload_n (i := 0) (v := kR k) (Nat.le_refl 2) rfl (by decide +kernel) ?_
    refine k_sipush (c := 2304) (by omega) (by decide +kernel) ?_
    refine k_newarray (a := .int) (N := 2304) rfl (by omega) (by decide) AR_int hL27 (by omega) (by omega) (by decide +kernel) ?_
    refine k_putfield (idx := 90) (ci := 11) (f := 45) (pk_f (i := 1288) (RX11, TX11, 52) rfl (by decide) rfl rfl (by decide +kernel) rfl rfl) (atO_k hK (by omega) (by decide)) trivial (by decide +kernel) ?_
    refine k_aload_n (i := 0) (v := kR k) (Nat.le_refl 2) rfl (by decide +kernel) ?_
    refine k_sipush (c := 256) (by omega) (by decide +kernel) ?_
    refine k_newarray (a := .int) (N := 256) rfl (by omega) (by decide) AR_int hL28 (by omega) (by omega) (by decide +kernel) ?_
    refine k_putfield (idx := 93) (ci := 11) (f := 46) (pk_f (i := 1289) (RX11, TX11, 52) rfl (by decide) rfl rfl (by decide +kernel) rfl rfl) (atO_k hK (by omega) (by decide)) trivial (by decide +kernel) ?_
    refine k_aload_n (i := 0) (v := kR k) (Nat.le_refl 2) rfl (by decide +kernel) ?_
    refine k_bipush (c := 8) (by omega) (by decide +kernel) ?_
    refine k_newarray (a := .long) (N := 8) rfl (by omega) (by decide) AR_long hL29 (by omega) (by omega) (by decide +kernel) ?_
    refine k_putfield (idx := 96) (ci := 11) (f := 49) (pk_f (i := 1292) (RX11, TX11, 52) rfl (by decide) rfl rfl (by decide +kernel) rfl rfl) (atO_k hK (by omega) (by decide)) trivial (by decide +kernel) ?_
    refine k_aload_n (i := 0) (v := kR k) (Nat.le_refl 2) rfl (by decide +kernel) ?_
    refine k_bipush (c := 8) (by omega) (by decide +kernel) ?_
    refine k_newarray (a := .long) (N := 8) rfl (by omega) (by decide) AR_long hL30 (by omega) (by omega) (by decide +kernel) ?_
    refine k_putfield (idx := 99) (ci := 11) (f := 50) (pk_f (i := 1293) (RX11, TX11, 52) rfl (by decide) rfl rfl (by decide +kernel) rfl rfl) (atO_k hK (by omega) (by decide)) trivial (by decide +kernel) ?_
    refine vc_gen (fun m => m = mkA k μ n [0, 1, 10, 15, 16, 17, 18, 20, 21, 23, 24, 25, 26, 29, 30, 31, 32, 33, 35, 36, 37, 38, 39, 40, 41, 44, 45, 46, 49, 50]) rfl (fun m e => ?_)
    subst hn
    have q := mk_ok (ci := 11) (k := k) (μ := μ) (fs := [0, 1, 10, 15, 16, 17, 18, 20, 21, 23, 24, 25, 26, 29, 30, 31, 32, 33, 35, 36, 37, 38, 39, 40, 41, 44, 45, 46, 49, 50]) (by decide +kernel) h0
    rw [← e] at q
    have e0 : m k ((0 : Nat) : Int) = ((k + 1 : Nat) : Int) := by
      have r := q.2.1.1 0 (by decide) (by decide)
      rw [r]
      show (k : Int) + 1 = _
      omega
    refine k_aload_n (i := 0) (v := kR k) (Nat.le_refl 2) rfl (by decide +kernel) ?_
    refine kq_get (w := ((k + 1 : Nat) : Int)) (idx := 7) (ci := 11) (f := 0) (ff_f (i := 1243) (RX11, TX11, 52) rfl (by decide) rfl (by decide +kernel)) hK (by omega) (by decide) rfl e0 (by decide +kernel) ?_
    refine k_iconst (c := 4) (by decide +kernel) ?_
    refine k_iconst (c := (-1)) (by decide +kernel) ?_
    refine kq_ist hL1 (by omega) (by omega) (by omega) (by decide +kernel) ?_
    refine k_return rfl (by omega) rfl (by decide +kernel) ?_
    have z1 : m ((k : Int) + 1) = fun _ => 0 := q.2.2 _ (by omega) (by show (k : Int) + 1 ≤ (k : Int) + 30; omega)
    refine hQ _ (fun y hy => ?_) ⟨⟨fun f f0 f1 => ?_, fun f f0 f1 => ?_⟩, fun y y0 y1 => ?_, fun j => ?_⟩
    · rw [ru_ne (by omega)]; exact q.1 y (by show y < (k : Int) ∨ (k : Int) + 30 < y; omega)
    · rw [ru_ne (by omega)]; exact q.2.1.1 f f0 f1
    · rw [ru_ne (by omega)]; exact q.2.1.2 f f0 f1
    · rw [ru_ne (by omega)]; exact q.2.2 y (by omega) (by show y ≤ (k : Int) + 30; omega)
    · rw [show (k : Int) + 1 = ((k + 1 : Nat) : Int) by omega, ru_eq]
      by_cases c : j = 4
      · rw [c, r1_eq, if_pos rfl]
      · rw [r1_ne c, if_neg c, show ((k + 1 : Nat) : Int) = (k : Int) + 1 by omega, z1]
