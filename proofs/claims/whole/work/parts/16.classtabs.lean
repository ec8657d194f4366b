def fTJ6 : List (Nat × Nat × Nat × Int) := []
theorem fTJ6_ok : ∀ idx ci f fz, (idx, ci, f, fz) ∈ fTJ6 → fOK RJ6 idx ci f ∧ f < NF ci ∧ fz = (f : Int) := f_tab [] rfl (by decide +kernel)
def pTJ6 : List (Nat × Nat × Nat × Int) := []
theorem pTJ6_ok (y : Mt) : ∀ idx ci f fz, (idx, ci, f, fz) ∈ pTJ6 → pOK y RJ6 idx ci f ∧ f < NF ci ∧ fz = (f : Int) ∧ tgOf (TYS ci f) ≠ 2 := p_tab [] rfl (by decide +kernel) (by decide +kernel) y
def cTJ6 : List (Nat × Int) := [(265, 1431655765), (266, 858993459), (267, 252645135)]
theorem cTJ6_ok : ∀ idx z, (idx, z) ∈ cTJ6 → Cond.constant RJ6 idx (Int32.ofInt z) ∈ lw_ok := c_tab [((265, 1431655765), 829), ((266, 858993459), 830), ((267, 252645135), 831)] rfl (by decide +kernel)
def lTJ6 : List (Nat × Int) := []
theorem lTJ6_ok : ∀ idx z, (idx, z) ∈ lTJ6 → Cond.constantLong RJ6 idx (Int64.ofInt z) ∈ lw_ok := l_tab [] rfl (by decide +kernel)
def sTJ6 : List (Nat × Nat) := []
theorem sTJ6_ok : ∀ idx k, (idx, k) ∈ sTJ6 → k < 8 ∧ (Cond.fieldLink RJ6 idx RX10 (SL k).1 (SL k).2.1 ∈ lw_ok ∨ ∃ host, Cond.fieldLinkNest RJ6 idx RX10 (SL k).1 (SL k).2.1 host ∈ lw_tbl) := s_tab [] rfl (by decide +kernel)
def fTJ9 : List (Nat × Nat × Nat × Int) := []
theorem fTJ9_ok : ∀ idx ci f fz, (idx, ci, f, fz) ∈ fTJ9 → fOK RJ9 idx ci f ∧ f < NF ci ∧ fz = (f : Int) := f_tab [] rfl (by decide +kernel)
def pTJ9 : List (Nat × Nat × Nat × Int) := []
theorem pTJ9_ok (y : Mt) : ∀ idx ci f fz, (idx, ci, f, fz) ∈ pTJ9 → pOK y RJ9 idx ci f ∧ f < NF ci ∧ fz = (f : Int) ∧ tgOf (TYS ci f) ≠ 2 := p_tab [] rfl (by decide +kernel) (by decide +kernel) y
def cTJ9 : List (Nat × Int) := []
theorem cTJ9_ok : ∀ idx z, (idx, z) ∈ cTJ9 → Cond.constant RJ9 idx (Int32.ofInt z) ∈ lw_ok := c_tab [] rfl (by decide +kernel)
def lTJ9 : List (Nat × Int) := []
theorem lTJ9_ok : ∀ idx z, (idx, z) ∈ lTJ9 → Cond.constantLong RJ9 idx (Int64.ofInt z) ∈ lw_ok := l_tab [] rfl (by decide +kernel)
def sTJ9 : List (Nat × Nat) := []
theorem sTJ9_ok : ∀ idx k, (idx, k) ∈ sTJ9 → k < 8 ∧ (Cond.fieldLink RJ9 idx RX10 (SL k).1 (SL k).2.1 ∈ lw_ok ∨ ∃ host, Cond.fieldLinkNest RJ9 idx RX10 (SL k).1 (SL k).2.1 host ∈ lw_tbl) := s_tab [] rfl (by decide +kernel)
def fTJ7 : List (Nat × Nat × Nat × Int) := []
theorem fTJ7_ok : ∀ idx ci f fz, (idx, ci, f, fz) ∈ fTJ7 → fOK RJ7 idx ci f ∧ f < NF ci ∧ fz = (f : Int) := f_tab [] rfl (by decide +kernel)
def pTJ7 : List (Nat × Nat × Nat × Int) := []
theorem pTJ7_ok (y : Mt) : ∀ idx ci f fz, (idx, ci, f, fz) ∈ pTJ7 → pOK y RJ7 idx ci f ∧ f < NF ci ∧ fz = (f : Int) ∧ tgOf (TYS ci f) ≠ 2 := p_tab [] rfl (by decide +kernel) (by decide +kernel) y
def cTJ7 : List (Nat × Int) := []
theorem cTJ7_ok : ∀ idx z, (idx, z) ∈ cTJ7 → Cond.constant RJ7 idx (Int32.ofInt z) ∈ lw_ok := c_tab [] rfl (by decide +kernel)
def lTJ7 : List (Nat × Int) := []
theorem lTJ7_ok : ∀ idx z, (idx, z) ∈ lTJ7 → Cond.constantLong RJ7 idx (Int64.ofInt z) ∈ lw_ok := l_tab [] rfl (by decide +kernel)
def sTJ7 : List (Nat × Nat) := []
theorem sTJ7_ok : ∀ idx k, (idx, k) ∈ sTJ7 → k < 8 ∧ (Cond.fieldLink RJ7 idx RX10 (SL k).1 (SL k).2.1 ∈ lw_ok ∨ ∃ host, Cond.fieldLinkNest RJ7 idx RX10 (SL k).1 (SL k).2.1 host ∈ lw_tbl) := s_tab [] rfl (by decide +kernel)
def fTX7 : List (Nat × Nat × Nat × Int) := [(9, 7, 7, 7), (15, 7, 8, 8), (18, 7, 9, 9), (21, 7, 10, 10), (24, 7, 11, 11), (27, 7, 13, 13), (30, 7, 14, 14), (33, 7, 15, 15), (36, 7, 17, 17), (39, 7, 1, 1), (43, 7, 2, 2), (46, 7, 5, 5), (49, 7, 6, 6), (52, 7, 12, 12), (55, 7, 16, 16), (64, 7, 0, 0), (67, 7, 3, 3), (70, 7, 4, 4)]
theorem fTX7_ok : ∀ idx ci f fz, (idx, ci, f, fz) ∈ fTX7 → fOK RX7 idx ci f ∧ f < NF ci ∧ fz = (f : Int) := f_tab [((9, 7, 7, 7), 65), ((15, 7, 8, 8), 67), ((18, 7, 9, 9), 73), ((21, 7, 10, 10), 78), ((24, 7, 11, 11), 84), ((27, 7, 13, 13), 91), ((30, 7, 14, 14), 93), ((33, 7, 15, 15), 95), ((36, 7, 17, 17), 100), ((39, 7, 1, 1), 42), ((43, 7, 2, 2), 50), ((46, 7, 5, 5), 59), ((49, 7, 6, 6), 62), ((52, 7, 12, 12), 89), ((55, 7, 16, 16), 97), ((64, 7, 0, 0), 39), ((67, 7, 3, 3), 53), ((70, 7, 4, 4), 55)] rfl (by decide +kernel)
def pTX7 : List (Nat × Nat × Nat × Int) := [(39, 7, 1, 1), (43, 7, 2, 2), (46, 7, 5, 5), (49, 7, 6, 6), (52, 7, 12, 12), (55, 7, 16, 16), (64, 7, 0, 0), (67, 7, 3, 3), (70, 7, 4, 4)]
theorem pTX7_ok (y : Mt) : ∀ idx ci f fz, (idx, ci, f, fz) ∈ pTX7 → pOK y RX7 idx ci f ∧ f < NF ci ∧ fz = (f : Int) ∧ tgOf (TYS ci f) ≠ 2 := p_tab [((39, 7, 1, 1), 42), ((43, 7, 2, 2), 50), ((46, 7, 5, 5), 59), ((49, 7, 6, 6), 62), ((52, 7, 12, 12), 89), ((55, 7, 16, 16), 97), ((64, 7, 0, 0), 39), ((67, 7, 3, 3), 53), ((70, 7, 4, 4), 55)] rfl (by decide +kernel) (by decide +kernel) y
def cTX7 : List (Nat × Int) := [(83, 1000000)]
theorem cTX7_ok : ∀ idx z, (idx, z) ∈ cTX7 → Cond.constant RX7 idx (Int32.ofInt z) ∈ lw_ok := c_tab [((83, 1000000), 682)] rfl (by decide +kernel)
def lTX7 : List (Nat × Int) := []
theorem lTX7_ok : ∀ idx z, (idx, z) ∈ lTX7 → Cond.constantLong RX7 idx (Int64.ofInt z) ∈ lw_ok := l_tab [] rfl (by decide +kernel)
def sTX7 : List (Nat × Nat) := []
theorem sTX7_ok : ∀ idx k, (idx, k) ∈ sTX7 → k < 8 ∧ (Cond.fieldLink RX7 idx RX10 (SL k).1 (SL k).2.1 ∈ lw_ok ∨ ∃ host, Cond.fieldLinkNest RX7 idx RX10 (SL k).1 (SL k).2.1 host ∈ lw_tbl) := s_tab [] rfl (by decide +kernel)
def fTX9 : List (Nat × Nat × Nat × Int) := [(9, 9, 0, 0), (17, 9, 1, 1), (22, 9, 4, 4), (36, 9, 2, 2), (39, 9, 3, 3), (42, 9, 5, 5), (45, 9, 6, 6), (48, 9, 7, 7), (51, 9, 8, 8), (54, 9, 9, 9), (57, 9, 10, 10), (70, 1, 5, 5), (75, 1, 0, 0), (79, 7, 11, 11), (82, 7, 10, 10)]
theorem fTX9_ok : ∀ idx ci f fz, (idx, ci, f, fz) ∈ fTX9 → fOK RX9 idx ci f ∧ f < NF ci ∧ fz = (f : Int) := f_tab [((9, 9, 0, 0), 142), ((17, 9, 1, 1), 144), ((22, 9, 4, 4), 149), ((36, 9, 2, 2), 146), ((39, 9, 3, 3), 147), ((42, 9, 5, 5), 151), ((45, 9, 6, 6), 153), ((48, 9, 7, 7), 155), ((51, 9, 8, 8), 157), ((54, 9, 9, 9), 159), ((57, 9, 10, 10), 161), ((70, 1, 5, 5), 397), ((75, 1, 0, 0), 388), ((79, 7, 11, 11), 86), ((82, 7, 10, 10), 80)] rfl (by decide +kernel)
def pTX9 : List (Nat × Nat × Nat × Int) := [(22, 9, 4, 4), (36, 9, 2, 2), (39, 9, 3, 3), (42, 9, 5, 5), (45, 9, 6, 6), (48, 9, 7, 7), (51, 9, 8, 8), (54, 9, 9, 9), (57, 9, 10, 10)]
theorem pTX9_ok (y : Mt) : ∀ idx ci f fz, (idx, ci, f, fz) ∈ pTX9 → pOK y RX9 idx ci f ∧ f < NF ci ∧ fz = (f : Int) ∧ tgOf (TYS ci f) ≠ 2 := p_tab [((22, 9, 4, 4), 149), ((36, 9, 2, 2), 146), ((39, 9, 3, 3), 147), ((42, 9, 5, 5), 151), ((45, 9, 6, 6), 153), ((48, 9, 7, 7), 155), ((51, 9, 8, 8), 157), ((54, 9, 9, 9), 159), ((57, 9, 10, 10), 161)] rfl (by decide +kernel) (by decide +kernel) y
def cTX9 : List (Nat × Int) := []
theorem cTX9_ok : ∀ idx z, (idx, z) ∈ cTX9 → Cond.constant RX9 idx (Int32.ofInt z) ∈ lw_ok := c_tab [] rfl (by decide +kernel)
def lTX9 : List (Nat × Int) := []
theorem lTX9_ok : ∀ idx z, (idx, z) ∈ lTX9 → Cond.constantLong RX9 idx (Int64.ofInt z) ∈ lw_ok := l_tab [] rfl (by decide +kernel)
def sTX9 : List (Nat × Nat) := []
theorem sTX9_ok : ∀ idx k, (idx, k) ∈ sTX9 → k < 8 ∧ (Cond.fieldLink RX9 idx RX10 (SL k).1 (SL k).2.1 ∈ lw_ok ∨ ∃ host, Cond.fieldLinkNest RX9 idx RX10 (SL k).1 (SL k).2.1 host ∈ lw_tbl) := s_tab [] rfl (by decide +kernel)
def fTX5 : List (Nat × Nat × Nat × Int) := [(9, 5, 0, 0), (15, 5, 1, 1), (18, 5, 2, 2), (50, 5, 3, 3), (133, 7, 9, 9), (140, 7, 10, 10), (143, 7, 11, 11), (156, 7, 2, 2), (175, 7, 3, 3)]
theorem fTX5_ok : ∀ idx ci f fz, (idx, ci, f, fz) ∈ fTX5 → fOK RX5 idx ci f ∧ f < NF ci ∧ fz = (f : Int) := f_tab [((9, 5, 0, 0), 195), ((15, 5, 1, 1), 196), ((18, 5, 2, 2), 197), ((50, 5, 3, 3), 198), ((133, 7, 9, 9), 77), ((140, 7, 10, 10), 83), ((143, 7, 11, 11), 88), ((156, 7, 2, 2), 51), ((175, 7, 3, 3), 54)] rfl (by decide +kernel)
def pTX5 : List (Nat × Nat × Nat × Int) := [(21, 5, 4, 4), (25, 5, 5, 5), (50, 5, 3, 3), (146, 7, 5, 5), (153, 7, 6, 6)]
theorem pTX5_ok (y : Mt) : ∀ idx ci f fz, (idx, ci, f, fz) ∈ pTX5 → pOK y RX5 idx ci f ∧ f < NF ci ∧ fz = (f : Int) ∧ tgOf (TYS ci f) ≠ 2 := p_tab [((21, 5, 4, 4), 199), ((25, 5, 5, 5), 201), ((50, 5, 3, 3), 198), ((146, 7, 5, 5), 61), ((153, 7, 6, 6), 64)] rfl (by decide +kernel) (by decide +kernel) y
def cTX5 : List (Nat × Int) := []
theorem cTX5_ok : ∀ idx z, (idx, z) ∈ cTX5 → Cond.constant RX5 idx (Int32.ofInt z) ∈ lw_ok := c_tab [] rfl (by decide +kernel)
def lTX5 : List (Nat × Int) := []
theorem lTX5_ok : ∀ idx z, (idx, z) ∈ lTX5 → Cond.constantLong RX5 idx (Int64.ofInt z) ∈ lw_ok := l_tab [] rfl (by decide +kernel)
def sTX5 : List (Nat × Nat) := [(74, 1), (82, 2), (85, 3), (88, 4), (91, 5), (94, 6), (97, 7)]
theorem sTX5_ok : ∀ idx k, (idx, k) ∈ sTX5 → k < 8 ∧ (Cond.fieldLink RX5 idx RX10 (SL k).1 (SL k).2.1 ∈ lw_ok ∨ ∃ host, Cond.fieldLinkNest RX5 idx RX10 (SL k).1 (SL k).2.1 host ∈ lw_tbl) := s_tab [((74, 1), 580), ((82, 2), 585), ((85, 3), 587), ((88, 4), 589), ((91, 5), 591), ((94, 6), 593), ((97, 7), 595)] rfl (by decide +kernel)
def fTX6 : List (Nat × Nat × Nat × Int) := [(9, 6, 0, 0), (15, 6, 1, 1), (18, 6, 2, 2), (21, 6, 3, 3), (24, 6, 4, 4), (27, 6, 5, 5), (30, 6, 6, 6), (44, 7, 8, 8), (49, 7, 1, 1), (60, 6, 7, 7), (70, 6, 9, 9), (73, 7, 4, 4), (76, 6, 10, 10), (96, 6, 8, 8), (99, 7, 11, 11), (113, 7, 9, 9), (116, 7, 10, 10)]
theorem fTX6_ok : ∀ idx ci f fz, (idx, ci, f, fz) ∈ fTX6 → fOK RX6 idx ci f ∧ f < NF ci ∧ fz = (f : Int) := f_tab [((9, 6, 0, 0), 223), ((15, 6, 1, 1), 224), ((18, 6, 2, 2), 225), ((21, 6, 3, 3), 226), ((24, 6, 4, 4), 227), ((27, 6, 5, 5), 228), ((30, 6, 6, 6), 229), ((44, 7, 8, 8), 70), ((49, 7, 1, 1), 48), ((60, 6, 7, 7), 230), ((70, 6, 9, 9), 234), ((73, 7, 4, 4), 57), ((76, 6, 10, 10), 236), ((96, 6, 8, 8), 232), ((99, 7, 11, 11), 87), ((113, 7, 9, 9), 76), ((116, 7, 10, 10), 82)] rfl (by decide +kernel)
def pTX6 : List (Nat × Nat × Nat × Int) := [(30, 6, 6, 6), (60, 6, 7, 7), (70, 6, 9, 9), (76, 6, 10, 10), (79, 6, 11, 11), (96, 6, 8, 8)]
theorem pTX6_ok (y : Mt) : ∀ idx ci f fz, (idx, ci, f, fz) ∈ pTX6 → pOK y RX6 idx ci f ∧ f < NF ci ∧ fz = (f : Int) ∧ tgOf (TYS ci f) ≠ 2 := p_tab [((30, 6, 6, 6), 229), ((60, 6, 7, 7), 230), ((70, 6, 9, 9), 234), ((76, 6, 10, 10), 236), ((79, 6, 11, 11), 238), ((96, 6, 8, 8), 232)] rfl (by decide +kernel) (by decide +kernel) y
def cTX6 : List (Nat × Int) := [(131, 2147483647)]
theorem cTX6_ok : ∀ idx z, (idx, z) ∈ cTX6 → Cond.constant RX6 idx (Int32.ofInt z) ∈ lw_ok := c_tab [((131, 2147483647), 794)] rfl (by decide +kernel)
def lTX6 : List (Nat × Int) := []
theorem lTX6_ok : ∀ idx z, (idx, z) ∈ lTX6 → Cond.constantLong RX6 idx (Int64.ofInt z) ∈ lw_ok := l_tab [] rfl (by decide +kernel)
def sTX6 : List (Nat × Nat) := []
theorem sTX6_ok : ∀ idx k, (idx, k) ∈ sTX6 → k < 8 ∧ (Cond.fieldLink RX6 idx RX10 (SL k).1 (SL k).2.1 ∈ lw_ok ∨ ∃ host, Cond.fieldLinkNest RX6 idx RX10 (SL k).1 (SL k).2.1 host ∈ lw_tbl) := s_tab [] rfl (by decide +kernel)
def fTX0 : List (Nat × Nat × Nat × Int) := [(9, 0, 2, 2), (15, 0, 3, 3), (18, 0, 4, 4), (21, 0, 6, 6), (24, 0, 7, 7), (27, 0, 8, 8), (30, 0, 9, 9), (34, 0, 10, 10), (37, 0, 11, 11), (40, 0, 12, 12), (49, 0, 0, 0), (56, 0, 1, 1), (82, 0, 5, 5), (88, 0, 14, 14), (100, 0, 18, 18), (144, 0, 13, 13), (148, 0, 16, 16), (154, 0, 15, 15), (157, 0, 17, 17)]
theorem fTX0_ok : ∀ idx ci f fz, (idx, ci, f, fz) ∈ fTX0 → fOK RX0 idx ci f ∧ f < NF ci ∧ fz = (f : Int) := f_tab [((9, 0, 2, 2), 273), ((15, 0, 3, 3), 274), ((18, 0, 4, 4), 275), ((21, 0, 6, 6), 277), ((24, 0, 7, 7), 278), ((27, 0, 8, 8), 280), ((30, 0, 9, 9), 281), ((34, 0, 10, 10), 282), ((37, 0, 11, 11), 283), ((40, 0, 12, 12), 284), ((49, 0, 0, 0), 271), ((56, 0, 1, 1), 272), ((82, 0, 5, 5), 276), ((88, 0, 14, 14), 287), ((100, 0, 18, 18), 296), ((144, 0, 13, 13), 286), ((148, 0, 16, 16), 293), ((154, 0, 15, 15), 290), ((157, 0, 17, 17), 295)] rfl (by decide +kernel)
def pTX0 : List (Nat × Nat × Nat × Int) := [(49, 0, 0, 0), (56, 0, 1, 1), (82, 0, 5, 5), (88, 0, 14, 14), (100, 0, 18, 18), (144, 0, 13, 13), (148, 0, 16, 16), (154, 0, 15, 15), (157, 0, 17, 17)]
theorem pTX0_ok (y : Mt) : ∀ idx ci f fz, (idx, ci, f, fz) ∈ pTX0 → pOK y RX0 idx ci f ∧ f < NF ci ∧ fz = (f : Int) ∧ tgOf (TYS ci f) ≠ 2 := p_tab [((49, 0, 0, 0), 271), ((56, 0, 1, 1), 272), ((82, 0, 5, 5), 276), ((88, 0, 14, 14), 287), ((100, 0, 18, 18), 296), ((144, 0, 13, 13), 286), ((148, 0, 16, 16), 293), ((154, 0, 15, 15), 290), ((157, 0, 17, 17), 295)] rfl (by decide +kernel) (by decide +kernel) y
def cTX0 : List (Nat × Int) := [(107, 1000000)]
theorem cTX0_ok : ∀ idx z, (idx, z) ∈ cTX0 → Cond.constant RX0 idx (Int32.ofInt z) ∈ lw_ok := c_tab [((107, 1000000), 898)] rfl (by decide +kernel)
def lTX0 : List (Nat × Int) := []
theorem lTX0_ok : ∀ idx z, (idx, z) ∈ lTX0 → Cond.constantLong RX0 idx (Int64.ofInt z) ∈ lw_ok := l_tab [] rfl (by decide +kernel)
def sTX0 : List (Nat × Nat) := [(53, 0)]
theorem sTX0_ok : ∀ idx k, (idx, k) ∈ sTX0 → k < 8 ∧ (Cond.fieldLink RX0 idx RX10 (SL k).1 (SL k).2.1 ∈ lw_ok ∨ ∃ host, Cond.fieldLinkNest RX0 idx RX10 (SL k).1 (SL k).2.1 host ∈ lw_tbl) := s_tab [((53, 0), 872)] rfl (by decide +kernel)
def fTX3 : List (Nat × Nat × Nat × Int) := [(9, 3, 0, 0), (27, 3, 1, 1), (31, 7, 1, 1), (38, 7, 8, 8), (47, 0, 15, 15), (51, 0, 16, 16), (54, 3, 2, 2), (57, 3, 3, 3), (64, 7, 0, 0), (67, 3, 4, 4), (68, 3, 5, 5), (71, 3, 6, 6), (89, 3, 8, 8), (90, 3, 9, 9), (94, 7, 4, 4)]
theorem fTX3_ok : ∀ idx ci f fz, (idx, ci, f, fz) ∈ fTX3 → fOK RX3 idx ci f ∧ f < NF ci ∧ fz = (f : Int) := f_tab [((9, 3, 0, 0), 343), ((27, 3, 1, 1), 344), ((31, 7, 1, 1), 47), ((38, 7, 8, 8), 69), ((47, 0, 15, 15), 289), ((51, 0, 16, 16), 292), ((54, 3, 2, 2), 346), ((57, 3, 3, 3), 348), ((64, 7, 0, 0), 40), ((67, 3, 4, 4), 350), ((68, 3, 5, 5), 351), ((71, 3, 6, 6), 352), ((89, 3, 8, 8), 356), ((90, 3, 9, 9), 358), ((94, 7, 4, 4), 56)] rfl (by decide +kernel)
def pTX3 : List (Nat × Nat × Nat × Int) := [(27, 3, 1, 1), (54, 3, 2, 2), (57, 3, 3, 3), (67, 3, 4, 4), (68, 3, 5, 5), (71, 3, 6, 6), (89, 3, 8, 8), (90, 3, 9, 9), (91, 3, 7, 7)]
theorem pTX3_ok (y : Mt) : ∀ idx ci f fz, (idx, ci, f, fz) ∈ pTX3 → pOK y RX3 idx ci f ∧ f < NF ci ∧ fz = (f : Int) ∧ tgOf (TYS ci f) ≠ 2 := p_tab [((27, 3, 1, 1), 344), ((54, 3, 2, 2), 346), ((57, 3, 3, 3), 348), ((67, 3, 4, 4), 350), ((68, 3, 5, 5), 351), ((71, 3, 6, 6), 352), ((89, 3, 8, 8), 356), ((90, 3, 9, 9), 358), ((91, 3, 7, 7), 354)] rfl (by decide +kernel) (by decide +kernel) y
def cTX3 : List (Nat × Int) := []
theorem cTX3_ok : ∀ idx z, (idx, z) ∈ cTX3 → Cond.constant RX3 idx (Int32.ofInt z) ∈ lw_ok := c_tab [] rfl (by decide +kernel)
def lTX3 : List (Nat × Int) := []
theorem lTX3_ok : ∀ idx z, (idx, z) ∈ lTX3 → Cond.constantLong RX3 idx (Int64.ofInt z) ∈ lw_ok := l_tab [] rfl (by decide +kernel)
def sTX3 : List (Nat × Nat) := []
theorem sTX3_ok : ∀ idx k, (idx, k) ∈ sTX3 → k < 8 ∧ (Cond.fieldLink RX3 idx RX10 (SL k).1 (SL k).2.1 ∈ lw_ok ∨ ∃ host, Cond.fieldLinkNest RX3 idx RX10 (SL k).1 (SL k).2.1 host ∈ lw_tbl) := s_tab [] rfl (by decide +kernel)
def fTX1 : List (Nat × Nat × Nat × Int) := [(9, 1, 0, 0), (15, 1, 1, 1), (19, 1, 2, 2), (22, 1, 3, 3), (25, 1, 4, 4), (28, 7, 1, 1), (34, 7, 9, 9), (39, 7, 3, 3), (42, 1, 5, 5), (53, 7, 5, 5), (56, 7, 11, 11), (61, 7, 10, 10)]
theorem fTX1_ok : ∀ idx ci f fz, (idx, ci, f, fz) ∈ fTX1 → fOK RX1 idx ci f ∧ f < NF ci ∧ fz = (f : Int) := f_tab [((9, 1, 0, 0), 387), ((15, 1, 1, 1), 390), ((19, 1, 2, 2), 392), ((22, 1, 3, 3), 394), ((25, 1, 4, 4), 395), ((28, 7, 1, 1), 44), ((34, 7, 9, 9), 74), ((39, 7, 3, 3), 52), ((42, 1, 5, 5), 396), ((53, 7, 5, 5), 60), ((56, 7, 11, 11), 85), ((61, 7, 10, 10), 79)] rfl (by decide +kernel)
def pTX1 : List (Nat × Nat × Nat × Int) := [(42, 1, 5, 5)]
theorem pTX1_ok (y : Mt) : ∀ idx ci f fz, (idx, ci, f, fz) ∈ pTX1 → pOK y RX1 idx ci f ∧ f < NF ci ∧ fz = (f : Int) ∧ tgOf (TYS ci f) ≠ 2 := p_tab [((42, 1, 5, 5), 396)] rfl (by decide +kernel) (by decide +kernel) y
def cTX1 : List (Nat × Int) := []
theorem cTX1_ok : ∀ idx z, (idx, z) ∈ cTX1 → Cond.constant RX1 idx (Int32.ofInt z) ∈ lw_ok := c_tab [] rfl (by decide +kernel)
def lTX1 : List (Nat × Int) := [(37, 429981696), (59, 12)]
theorem lTX1_ok : ∀ idx z, (idx, z) ∈ lTX1 → Cond.constantLong RX1 idx (Int64.ofInt z) ∈ lw_ok := l_tab [((37, 429981696), 1067), ((59, 12), 1076)] rfl (by decide +kernel)
def sTX1 : List (Nat × Nat) := []
theorem sTX1_ok : ∀ idx k, (idx, k) ∈ sTX1 → k < 8 ∧ (Cond.fieldLink RX1 idx RX10 (SL k).1 (SL k).2.1 ∈ lw_ok ∨ ∃ host, Cond.fieldLinkNest RX1 idx RX10 (SL k).1 (SL k).2.1 host ∈ lw_tbl) := s_tab [] rfl (by decide +kernel)
def fTX2 : List (Nat × Nat × Nat × Int) := [(9, 2, 0, 0), (15, 2, 1, 1), (19, 2, 2, 2), (22, 2, 3, 3), (25, 2, 4, 4), (28, 2, 5, 5), (31, 2, 6, 6), (34, 2, 7, 7), (37, 7, 1, 1), (47, 7, 6, 6), (54, 7, 0, 0), (57, 2, 9, 9), (58, 2, 10, 10), (63, 2, 8, 8), (77, 7, 9, 9), (97, 7, 10, 10), (106, 7, 16, 16), (110, 7, 17, 17)]
theorem fTX2_ok : ∀ idx ci f fz, (idx, ci, f, fz) ∈ fTX2 → fOK RX2 idx ci f ∧ f < NF ci ∧ fz = (f : Int) := f_tab [((9, 2, 0, 0), 418), ((15, 2, 1, 1), 419), ((19, 2, 2, 2), 420), ((22, 2, 3, 3), 421), ((25, 2, 4, 4), 422), ((28, 2, 5, 5), 423), ((31, 2, 6, 6), 425), ((34, 2, 7, 7), 427), ((37, 7, 1, 1), 45), ((47, 7, 6, 6), 63), ((54, 7, 0, 0), 38), ((57, 2, 9, 9), 430), ((58, 2, 10, 10), 431), ((63, 2, 8, 8), 428), ((77, 7, 9, 9), 75), ((97, 7, 10, 10), 81), ((106, 7, 16, 16), 98), ((110, 7, 17, 17), 101)] rfl (by decide +kernel)
def pTX2 : List (Nat × Nat × Nat × Int) := [(57, 2, 9, 9), (58, 2, 10, 10), (63, 2, 8, 8)]
theorem pTX2_ok (y : Mt) : ∀ idx ci f fz, (idx, ci, f, fz) ∈ pTX2 → pOK y RX2 idx ci f ∧ f < NF ci ∧ fz = (f : Int) ∧ tgOf (TYS ci f) ≠ 2 := p_tab [((57, 2, 9, 9), 430), ((58, 2, 10, 10), 431), ((63, 2, 8, 8), 428)] rfl (by decide +kernel) (by decide +kernel) y
def cTX2 : List (Nat × Int) := [(84, 1000000)]
theorem cTX2_ok : ∀ idx z, (idx, z) ∈ cTX2 → Cond.constant RX2 idx (Int32.ofInt z) ∈ lw_ok := c_tab [((84, 1000000), 1116)] rfl (by decide +kernel)
def lTX2 : List (Nat × Int) := [(61, -1), (95, 12)]
theorem lTX2_ok : ∀ idx z, (idx, z) ∈ lTX2 → Cond.constantLong RX2 idx (Int64.ofInt z) ∈ lw_ok := l_tab [((61, -1), 1103), ((95, 12), 1115)] rfl (by decide +kernel)
def sTX2 : List (Nat × Nat) := []
theorem sTX2_ok : ∀ idx k, (idx, k) ∈ sTX2 → k < 8 ∧ (Cond.fieldLink RX2 idx RX10 (SL k).1 (SL k).2.1 ∈ lw_ok ∨ ∃ host, Cond.fieldLinkNest RX2 idx RX10 (SL k).1 (SL k).2.1 host ∈ lw_tbl) := s_tab [] rfl (by decide +kernel)
def fTX8 : List (Nat × Nat × Nat × Int) := [(9, 8, 0, 0), (15, 8, 1, 1), (18, 7, 1, 1), (28, 7, 8, 8), (39, 8, 2, 2), (43, 8, 3, 3)]
theorem fTX8_ok : ∀ idx ci f fz, (idx, ci, f, fz) ∈ fTX8 → fOK RX8 idx ci f ∧ f < NF ci ∧ fz = (f : Int) := f_tab [((9, 8, 0, 0), 461), ((15, 8, 1, 1), 462), ((18, 7, 1, 1), 43), ((28, 7, 8, 8), 68), ((39, 8, 2, 2), 463), ((43, 8, 3, 3), 465)] rfl (by decide +kernel)
def pTX8 : List (Nat × Nat × Nat × Int) := [(39, 8, 2, 2), (43, 8, 3, 3)]
theorem pTX8_ok (y : Mt) : ∀ idx ci f fz, (idx, ci, f, fz) ∈ pTX8 → pOK y RX8 idx ci f ∧ f < NF ci ∧ fz = (f : Int) ∧ tgOf (TYS ci f) ≠ 2 := p_tab [((39, 8, 2, 2), 463), ((43, 8, 3, 3), 465)] rfl (by decide +kernel) (by decide +kernel) y
def cTX8 : List (Nat × Int) := []
theorem cTX8_ok : ∀ idx z, (idx, z) ∈ cTX8 → Cond.constant RX8 idx (Int32.ofInt z) ∈ lw_ok := c_tab [] rfl (by decide +kernel)
def lTX8 : List (Nat × Int) := []
theorem lTX8_ok : ∀ idx z, (idx, z) ∈ lTX8 → Cond.constantLong RX8 idx (Int64.ofInt z) ∈ lw_ok := l_tab [] rfl (by decide +kernel)
def sTX8 : List (Nat × Nat) := []
theorem sTX8_ok : ∀ idx k, (idx, k) ∈ sTX8 → k < 8 ∧ (Cond.fieldLink RX8 idx RX10 (SL k).1 (SL k).2.1 ∈ lw_ok ∨ ∃ host, Cond.fieldLinkNest RX8 idx RX10 (SL k).1 (SL k).2.1 host ∈ lw_tbl) := s_tab [] rfl (by decide +kernel)
def fTX4 : List (Nat × Nat × Nat × Int) := [(9, 4, 0, 0), (15, 4, 1, 1), (18, 7, 1, 1), (58, 7, 8, 8)]
theorem fTX4_ok : ∀ idx ci f fz, (idx, ci, f, fz) ∈ fTX4 → fOK RX4 idx ci f ∧ f < NF ci ∧ fz = (f : Int) := f_tab [((9, 4, 0, 0), 482), ((15, 4, 1, 1), 483), ((18, 7, 1, 1), 46), ((58, 7, 8, 8), 71)] rfl (by decide +kernel)
def pTX4 : List (Nat × Nat × Nat × Int) := [(41, 4, 2, 2)]
theorem pTX4_ok (y : Mt) : ∀ idx ci f fz, (idx, ci, f, fz) ∈ pTX4 → pOK y RX4 idx ci f ∧ f < NF ci ∧ fz = (f : Int) ∧ tgOf (TYS ci f) ≠ 2 := p_tab [((41, 4, 2, 2), 485)] rfl (by decide +kernel) (by decide +kernel) y
def cTX4 : List (Nat × Int) := [(53, 2147483647)]
theorem cTX4_ok : ∀ idx z, (idx, z) ∈ cTX4 → Cond.constant RX4 idx (Int32.ofInt z) ∈ lw_ok := c_tab [((53, 2147483647), 1051)] rfl (by decide +kernel)
def lTX4 : List (Nat × Int) := []
theorem lTX4_ok : ∀ idx z, (idx, z) ∈ lTX4 → Cond.constantLong RX4 idx (Int64.ofInt z) ∈ lw_ok := l_tab [] rfl (by decide +kernel)
def sTX4 : List (Nat × Nat) := []
theorem sTX4_ok : ∀ idx k, (idx, k) ∈ sTX4 → k < 8 ∧ (Cond.fieldLink RX4 idx RX10 (SL k).1 (SL k).2.1 ∈ lw_ok ∨ ∃ host, Cond.fieldLinkNest RX4 idx RX10 (SL k).1 (SL k).2.1 host ∈ lw_tbl) := s_tab [] rfl (by decide +kernel)
def fTX10 : List (Nat × Nat × Nat × Int) := [(10, 10, 0, 0), (16, 10, 1, 1), (20, 10, 2, 2), (27, 10, 3, 3), (34, 10, 4, 4), (41, 10, 5, 5), (48, 10, 6, 6), (52, 10, 7, 7), (58, 10, 8, 8), (65, 10, 9, 9), (72, 10, 10, 10), (79, 10, 11, 11), (86, 10, 12, 12), (90, 10, 13, 13), (94, 9, 2, 2), (101, 9, 3, 3), (104, 9, 4, 4), (107, 9, 5, 5), (114, 9, 0, 0), (122, 5, 4, 4), (123, 5, 5, 5), (141, 7, 7, 7), (145, 7, 8, 8), (148, 7, 12, 12), (151, 7, 14, 14), (154, 7, 15, 15), (160, 7, 13, 13), (173, 6, 7, 7), (182, 6, 9, 9), (189, 7, 4, 4), (205, 6, 10, 10), (208, 6, 11, 11), (223, 0, 15, 15), (227, 0, 16, 16), (230, 0, 14, 14), (233, 7, 1, 1), (240, 0, 7, 7), (243, 0, 12, 12), (251, 3, 1, 1), (254, 3, 2, 2), (257, 3, 3, 3), (264, 3, 6, 6), (265, 3, 7, 7), (266, 3, 8, 8), (267, 3, 9, 9), (281, 8, 2, 2), (282, 8, 3, 3), (293, 4, 2, 2), (294, 4, 1, 1), (300, 1, 5, 5), (303, 1, 0, 0), (306, 1, 1, 1), (316, 1, 2, 2), (324, 2, 5, 5), (327, 2, 8, 8), (330, 7, 16, 16), (333, 7, 17, 17), (343, 2, 6, 6), (357, 6, 8, 8), (366, 9, 8, 8), (369, 9, 6, 6), (372, 9, 7, 7), (375, 9, 9, 9), (378, 9, 10, 10)]
theorem fTX10_ok : ∀ idx ci f fz, (idx, ci, f, fz) ∈ fTX10 → fOK RX10 idx ci f ∧ f < NF ci ∧ fz = (f : Int) := f_tab [((10, 10, 0, 0), 494), ((16, 10, 1, 1), 495), ((20, 10, 2, 2), 496), ((27, 10, 3, 3), 497), ((34, 10, 4, 4), 498), ((41, 10, 5, 5), 499), ((48, 10, 6, 6), 500), ((52, 10, 7, 7), 501), ((58, 10, 8, 8), 502), ((65, 10, 9, 9), 503), ((72, 10, 10, 10), 504), ((79, 10, 11, 11), 505), ((86, 10, 12, 12), 506), ((90, 10, 13, 13), 507), ((94, 9, 2, 2), 145), ((101, 9, 3, 3), 148), ((104, 9, 4, 4), 150), ((107, 9, 5, 5), 152), ((114, 9, 0, 0), 143), ((122, 5, 4, 4), 200), ((123, 5, 5, 5), 202), ((141, 7, 7, 7), 66), ((145, 7, 8, 8), 72), ((148, 7, 12, 12), 90), ((151, 7, 14, 14), 94), ((154, 7, 15, 15), 96), ((160, 7, 13, 13), 92), ((173, 6, 7, 7), 231), ((182, 6, 9, 9), 235), ((189, 7, 4, 4), 58), ((205, 6, 10, 10), 237), ((208, 6, 11, 11), 239), ((223, 0, 15, 15), 291), ((227, 0, 16, 16), 294), ((230, 0, 14, 14), 288), ((233, 7, 1, 1), 49), ((240, 0, 7, 7), 279), ((243, 0, 12, 12), 285), ((251, 3, 1, 1), 345), ((254, 3, 2, 2), 347), ((257, 3, 3, 3), 349), ((264, 3, 6, 6), 353), ((265, 3, 7, 7), 355), ((266, 3, 8, 8), 357), ((267, 3, 9, 9), 359), ((281, 8, 2, 2), 464), ((282, 8, 3, 3), 466), ((293, 4, 2, 2), 486), ((294, 4, 1, 1), 484), ((300, 1, 5, 5), 398), ((303, 1, 0, 0), 389), ((306, 1, 1, 1), 391), ((316, 1, 2, 2), 393), ((324, 2, 5, 5), 424), ((327, 2, 8, 8), 429), ((330, 7, 16, 16), 99), ((333, 7, 17, 17), 102), ((343, 2, 6, 6), 426), ((357, 6, 8, 8), 233), ((366, 9, 8, 8), 158), ((369, 9, 6, 6), 154), ((372, 9, 7, 7), 156), ((375, 9, 9, 9), 160), ((378, 9, 10, 10), 162)] rfl (by decide +kernel)
def pTX10 : List (Nat × Nat × Nat × Int) := [(90, 10, 13, 13), (94, 9, 2, 2), (101, 9, 3, 3), (104, 9, 4, 4), (107, 9, 5, 5), (126, 7, 0, 0), (148, 7, 12, 12), (330, 7, 16, 16)]
theorem pTX10_ok (y : Mt) : ∀ idx ci f fz, (idx, ci, f, fz) ∈ pTX10 → pOK y RX10 idx ci f ∧ f < NF ci ∧ fz = (f : Int) ∧ tgOf (TYS ci f) ≠ 2 := p_tab [((90, 10, 13, 13), 507), ((94, 9, 2, 2), 145), ((101, 9, 3, 3), 148), ((104, 9, 4, 4), 150), ((107, 9, 5, 5), 152), ((126, 7, 0, 0), 41), ((148, 7, 12, 12), 90), ((330, 7, 16, 16), 99)] rfl (by decide +kernel) (by decide +kernel) y
def cTX10 : List (Nat × Int) := [(384, 1000000), (389, 1103515245)]
theorem cTX10_ok : ∀ idx z, (idx, z) ∈ cTX10 → Cond.constant RX10 idx (Int32.ofInt z) ∈ lw_ok := c_tab [((384, 1000000), 935), ((389, 1103515245), 1207)] rfl (by decide +kernel)
def lTX10 : List (Nat × Int) := [(221, -1000000000000), (272, -1), (314, -4000000000000000000)]
theorem lTX10_ok : ∀ idx z, (idx, z) ∈ lTX10 → Cond.constantLong RX10 idx (Int64.ofInt z) ∈ lw_ok := l_tab [((221, -1000000000000), 948), ((272, -1), 1000), ((314, -4000000000000000000), 1086)] rfl (by decide +kernel)
def sTX10 : List (Nat × Nat) := []
theorem sTX10_ok : ∀ idx k, (idx, k) ∈ sTX10 → k < 8 ∧ (Cond.fieldLink RX10 idx RX10 (SL k).1 (SL k).2.1 ∈ lw_ok ∨ ∃ host, Cond.fieldLinkNest RX10 idx RX10 (SL k).1 (SL k).2.1 host ∈ lw_tbl) := s_tab [] rfl (by decide +kernel)
def fTX11 : List (Nat × Nat × Nat × Int) := [(7, 11, 0, 0), (13, 11, 1, 1), (17, 11, 10, 10), (20, 11, 15, 15), (23, 11, 16, 16), (26, 11, 17, 17), (29, 11, 18, 18), (32, 11, 20, 20), (35, 11, 21, 21), (38, 11, 23, 23), (41, 11, 24, 24), (44, 11, 25, 25), (48, 11, 26, 26), (51, 11, 29, 29), (54, 11, 30, 30), (57, 11, 31, 31), (60, 11, 32, 32), (63, 11, 33, 33), (66, 11, 35, 35), (69, 11, 36, 36), (72, 11, 37, 37), (75, 11, 38, 38), (78, 11, 39, 39), (81, 11, 40, 40), (84, 11, 41, 41), (87, 11, 44, 44), (90, 11, 45, 45), (93, 11, 46, 46), (96, 11, 49, 49), (99, 11, 50, 50), (102, 11, 2, 2), (122, 11, 3, 3), (129, 11, 4, 4), (132, 11, 5, 5), (143, 11, 7, 7), (149, 11, 6, 6), (152, 11, 8, 8), (156, 11, 11, 11), (181, 11, 9, 9), (203, 11, 12, 12), (206, 11, 13, 13), (216, 11, 14, 14), (271, 11, 19, 19), (287, 11, 22, 22), (293, 11, 27, 27), (297, 11, 28, 28), (357, 11, 34, 34), (378, 11, 42, 42), (390, 11, 43, 43), (423, 11, 47, 47), (426, 11, 48, 48), (448, 11, 51, 51)]
theorem fTX11_ok : ∀ idx ci f fz, (idx, ci, f, fz) ∈ fTX11 → fOK RX11 idx ci f ∧ f < NF ci ∧ fz = (f : Int) := f_tab [((7, 11, 0, 0), 1243), ((13, 11, 1, 1), 1244), ((17, 11, 10, 10), 1253), ((20, 11, 15, 15), 1258), ((23, 11, 16, 16), 1259), ((26, 11, 17, 17), 1260), ((29, 11, 18, 18), 1261), ((32, 11, 20, 20), 1263), ((35, 11, 21, 21), 1264), ((38, 11, 23, 23), 1266), ((41, 11, 24, 24), 1267), ((44, 11, 25, 25), 1268), ((48, 11, 26, 26), 1269), ((51, 11, 29, 29), 1272), ((54, 11, 30, 30), 1273), ((57, 11, 31, 31), 1274), ((60, 11, 32, 32), 1275), ((63, 11, 33, 33), 1276), ((66, 11, 35, 35), 1278), ((69, 11, 36, 36), 1279), ((72, 11, 37, 37), 1280), ((75, 11, 38, 38), 1281), ((78, 11, 39, 39), 1282), ((81, 11, 40, 40), 1283), ((84, 11, 41, 41), 1284), ((87, 11, 44, 44), 1287), ((90, 11, 45, 45), 1288), ((93, 11, 46, 46), 1289), ((96, 11, 49, 49), 1292), ((99, 11, 50, 50), 1293), ((102, 11, 2, 2), 1245), ((122, 11, 3, 3), 1246), ((129, 11, 4, 4), 1247), ((132, 11, 5, 5), 1248), ((143, 11, 7, 7), 1250), ((149, 11, 6, 6), 1249), ((152, 11, 8, 8), 1251), ((156, 11, 11, 11), 1254), ((181, 11, 9, 9), 1252), ((203, 11, 12, 12), 1255), ((206, 11, 13, 13), 1256), ((216, 11, 14, 14), 1257), ((271, 11, 19, 19), 1262), ((287, 11, 22, 22), 1265), ((293, 11, 27, 27), 1270), ((297, 11, 28, 28), 1271), ((357, 11, 34, 34), 1277), ((378, 11, 42, 42), 1285), ((390, 11, 43, 43), 1286), ((423, 11, 47, 47), 1290), ((426, 11, 48, 48), 1291), ((448, 11, 51, 51), 1294)] rfl (by decide +kernel)
def pTX11 : List (Nat × Nat × Nat × Int) := [(102, 11, 2, 2), (122, 11, 3, 3), (129, 11, 4, 4), (132, 11, 5, 5), (143, 11, 7, 7), (149, 11, 6, 6), (152, 11, 8, 8), (156, 11, 11, 11), (181, 11, 9, 9), (203, 11, 12, 12), (206, 11, 13, 13), (216, 11, 14, 14), (271, 11, 19, 19), (287, 11, 22, 22), (293, 11, 27, 27), (297, 11, 28, 28), (357, 11, 34, 34), (378, 11, 42, 42), (390, 11, 43, 43), (423, 11, 47, 47), (426, 11, 48, 48), (448, 11, 51, 51)]
theorem pTX11_ok (y : Mt) : ∀ idx ci f fz, (idx, ci, f, fz) ∈ pTX11 → pOK y RX11 idx ci f ∧ f < NF ci ∧ fz = (f : Int) ∧ tgOf (TYS ci f) ≠ 2 := p_tab [((102, 11, 2, 2), 1245), ((122, 11, 3, 3), 1246), ((129, 11, 4, 4), 1247), ((132, 11, 5, 5), 1248), ((143, 11, 7, 7), 1250), ((149, 11, 6, 6), 1249), ((152, 11, 8, 8), 1251), ((156, 11, 11, 11), 1254), ((181, 11, 9, 9), 1252), ((203, 11, 12, 12), 1255), ((206, 11, 13, 13), 1256), ((216, 11, 14, 14), 1257), ((271, 11, 19, 19), 1262), ((287, 11, 22, 22), 1265), ((293, 11, 27, 27), 1270), ((297, 11, 28, 28), 1271), ((357, 11, 34, 34), 1277), ((378, 11, 42, 42), 1285), ((390, 11, 43, 43), 1286), ((423, 11, 47, 47), 1290), ((426, 11, 48, 48), 1291), ((448, 11, 51, 51), 1294)] rfl (by decide +kernel) (by decide +kernel) y
def cTX11 : List (Nat × Int) := [(212, 100000), (451, 1103515245)]
theorem cTX11_ok : ∀ idx z, (idx, z) ∈ cTX11 → Cond.constant RX11 idx (Int32.ofInt z) ∈ lw_ok := c_tab [((212, 100000), 1522), ((451, 1103515245), 1884)] rfl (by decide +kernel)
def lTX11 : List (Nat × Int) := [(106, 32), (108, 96), (114, 32768), (120, 101), (327, -1000000000000), (332, -1), (376, -4000000000000000000), (443, 12)]
theorem lTX11_ok : ∀ idx z, (idx, z) ∈ lTX11 → Cond.constantLong RX11 idx (Int64.ofInt z) ∈ lw_ok := l_tab [((106, 32), 1430), ((108, 96), 1431), ((114, 32768), 1438), ((120, 101), 1442), ((327, -1000000000000), 1669), ((332, -1), 1686), ((376, -4000000000000000000), 1753), ((443, 12), 1871)] rfl (by decide +kernel)
def sTX11 : List (Nat × Nat) := []
theorem sTX11_ok : ∀ idx k, (idx, k) ∈ sTX11 → k < 8 ∧ (Cond.fieldLink RX11 idx RX10 (SL k).1 (SL k).2.1 ∈ lw_ok ∨ ∃ host, Cond.fieldLinkNest RX11 idx RX10 (SL k).1 (SL k).2.1 host ∈ lw_tbl) := s_tab [] rfl (by decide +kernel)
