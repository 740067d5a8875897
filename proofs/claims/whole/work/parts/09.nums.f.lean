/-! broken numbers made whole -/
def twF (F C Z : Nat) : Nat := if Z / 2 ^ F - C ≤ F then (2 ^ F + Z % 2 ^ F) / 2 ^ (F - (Z / 2 ^ F - C)) else (2 ^ F + Z % 2 ^ F) * 2 ^ (Z / 2 ^ F - C - F)
theorem twF_bd (F C Z : Nat) : 2 ^ (Z / 2 ^ F - C) ≤ twF F C Z ∧ twF F C Z < 2 ^ (Z / 2 ^ F - C + 1) := by
  have hm : Z % 2 ^ F < 2 ^ F := Nat.mod_lt _ (Nat.two_pow_pos F)
  generalize Z / 2 ^ F - C = w
  unfold twF
  by_cases c : Z / 2 ^ F - C ≤ F
  · sorry
  · sorry
