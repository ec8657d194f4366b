/-- a town's object, as the class keeps it -/
def TW (μ : Mem) (t : Int) : Prop := isT t ∧ TVok (tv μ t) ∧ (∀ a b : Int, 0 ≤ a → a < tv μ t 0 0 → 0 ≤ b → b < tv μ t 0 0 → μ (t + 2) (8 * a + b) = wayV (tv μ t) a b ∧ 0 ≤ wayV (tv μ t) a b ∧ wayV (tv μ t) a b ≤ 140) ∧
  μ t 3 = sm (tv μ t 4) 8 ∧ (0 ≤ μ t 4 ∧ μ t 4 < 256) ∧ (∀ a : Int, 0 ≤ a → a < 8 → (hasB (μ t 4) a = true ↔ 0 < tv μ t 4 a))
def lanesV (v : TV) (a : Int) : Int := sm (fun b => if v 7 (8 * a + b) = 0 then 0 else 1) (v 0 0)
