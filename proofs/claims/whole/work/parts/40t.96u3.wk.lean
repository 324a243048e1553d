/-! what waits in a sum -/
theorem wkL_stop {p n : Int} {ws : List (Int × Int)} {cs : List cd} (h : ∀ z ∈ ws, z.2 ≠ n) : wkL p n ws cs = (ws, cs) := by
  cases ws with
  | nil => rfl
  | cons z ws =>
    obtain ⟨g, l⟩ := z
    have : l ≠ n := h (g, l) List.mem_cons_self
    unfold wkL
    rw [if_neg this]
theorem wkL_go {p n g : Int} {ws : List (Int × Int)} {cs : List cd} (h : ¬ rk g < p) : wkL p n ((g, n) :: ws) cs = wkL p n ws ((g, 0) :: cs) := by
  show (if n = n then (if rk g < p then _ else _) else _) = _
  rw [if_pos rfl, if_neg h]
theorem wkL_no {p n g : Int} {ws : List (Int × Int)} {cs : List cd} (h : rk g < p) : wkL p n ((g, n) :: ws) cs = ((g, n) :: ws, cs) := by
  show (if n = n then (if rk g < p then _ else _) else _) = _
  rw [if_pos rfl, if_pos h]
theorem rk_v : rk 43 = 3 ∧ rk 45 = 3 ∧ rk 42 = 4 ∧ rk 47 = 4 ∧ rk 406 = 2 ∧ rk 407 = 1 := by decide
