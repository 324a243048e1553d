/-! WHAT IS LEFT: the law's end on the abstract machine -/
def am_Goal : Prop := ∀ (L : Nat) (xs : Nat → Int32), L ≤ 3072 → ∃ μ' : am_M, am_Ex 300 am_law 0 (am_entry am_law [(2, -1)]) [] (am_mL L xs) = some (1, μ') ∧ μ'.1 ≤ 600001 ∧ am_sz μ'.1 ≤ 7302250
theorem am_goal : am_Goal := sorry
