/-! the law's end on the abstract machine -/
def am_Goal : Prop := ∀ (L : Nat) (xs : Nat → Int32), L ≤ 3072 → ∃ μ' : am_M, am_Ex 300 am_law 0 (am_entry am_law [(2, -1)]) [] (am_mL L xs) = some (1, μ') ∧ μ'.1 ≤ 600001 ∧ am_sz μ'.1 ≤ 7302250
theorem am_sz484 : am_sz 484 ≤ 7302250 := by decide +kernel
theorem am_goal : am_Goal := fun L xs hL => by
  obtain ⟨μ, h, s⟩ := am_goal' L xs hL
  exact ⟨μ, h, by rw [s]; decide, by rw [s]; exact am_sz484⟩
