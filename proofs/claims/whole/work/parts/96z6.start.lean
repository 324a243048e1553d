/-! RR at the start, and the goal -/
theorem getD_hi {α : Type} {d : α} : ∀ (l : List α) (i : Nat), l.length ≤ i → l.getD i d = d := by
  intro l
  induction l with
  | nil => intro i _; rfl
  | cons a l ih =>
    intro i h
    cases i with
    | zero => exact absurd h (by simp)
    | succ i => exact ih i (by simpa using h)
theorem kd_top : ∀ c : Fin 12, am_kd (484 + (c.val : Int)) = 99 := by decide +kernel
theorem kd_out {c : Int} (h : c < 0 ∨ 484 ≤ c) : am_kd c = 99 := by
  by_cases h0 : c < 0
  · unfold am_kd
    rw [if_neg (by omega)]
  · by_cases h1 : c < 496
    · have t := kd_top ⟨(c - 484).toNat, by omega⟩
      have e : 484 + (((⟨(c - 484).toNat, by omega⟩ : Fin 12).val : Nat) : Int) = c := by show 484 + (((c - 484).toNat : Nat) : Int) = c; omega
      rw [e] at t
      exact t
    · unfold am_kd am_shape
      rw [if_pos (by omega), getD_hi am_shapes (c.toNat / 16) (by show 31 ≤ _; omega)]
      rfl
def kd_ls : List Int := [1, 2, 8, 14, 15, 21, 27, 33, 39, 42, 43, 49, 55, 56, 237, 238, 420, 424, 425, 431, 442, 444, 447]
theorem kd_allB : ∀ c : Fin 484, ([20, 21, 22, 23, 99].contains (am_kd (c.val : Int)) || (kd_ls.contains (c.val : Int) || ((decide (57 ≤ (c.val : Int)) && decide ((c.val : Int) < 237) && decide (((c.val : Int) - 57) % 6 = 0)) || (decide (239 ≤ (c.val : Int)) && decide ((c.val : Int) < 419) && decide (((c.val : Int) - 239) % 6 = 0))))) = true := by decide +kernel
theorem kd_3B : ∀ k : Fin 30, am_kd (57 + 6 * (k.val : Int)) = 3 ∧ am_kd (239 + 6 * (k.val : Int)) = 3 := by decide +kernel
/-- the class's part, whatever number of cells -/
def CJ (M : am_M) : Prop := CI (447, M.2)
section
variable {M : am_M} {d : Nat}
theorem K_hz {h i : Int} (k : am_kd h = 3) (z : HZ M h) (e : ax_isr (am_kd h) i = true) : am_rd M h i = ax_rv h i := by
  have e2 := e
  rw [k] at e2
  have e2 : (decide (0 ≤ i) && decide (i < 5)) = true := e2
  simp only [Bool.and_eq_true, decide_eq_true_eq] at e2
  have v : ax_rv h i = h + 1 + i := by unfold ax_rv; rw [k]; rfl
  rw [v, z.1, if_neg (by omega), if_pos e2]
theorem K_of (hM : (M.1 : Int) = 484) (a : CJ M) (am : ∀ i, am_rd M 447 i = miF i) : ax_K M := by
  obtain ⟨n1, f1, fg, ⟨z8, z49, z425⟩, fs, ⟨f15, f14⟩, f39, f42, f420, ⟨f431, f424⟩, f442, f444⟩ := a
  replace f1 : ∀ i, am_rd M 1 i = _ := f1
  replace fg : ∀ g, g = 2 ∨ g = 43 → (∀ i, am_rd M g i = _) ∧ _ := fg
  replace z8 : HZ M 8 := z8
  replace z49 : HZ M 49 := z49
  replace z425 : HZ M 425 := z425
  replace fs : ∀ s, s = 55 ∨ s = 237 → (∀ q, 0 ≤ q → q < 30 → HZ M (s + 2 + 6 * q)) ∧ (∀ i, 0 ≤ i → i < 30 → am_rd M (s + 1) i = s + 2 + 6 * i) ∧ ∀ i, am_rd M s i = _ := fs
  replace f15 : ∀ q, 0 ≤ q → q < 4 → ∀ i, am_rd M (15 + 6 * q) i = _ := f15
  replace f14 : ∀ i, 0 ≤ i → i < 4 → am_rd M 14 i = _ := f14
  replace f39 : ∀ i, am_rd M 39 i = _ := f39
  replace f42 : ∀ i, am_rd M 42 i = _ := f42
  replace f420 : ∀ i, am_rd M 420 i = _ := f420
  replace f431 : ∀ i, 0 ≤ i → i < 8 → am_rd M 431 i = _ := f431
  replace f424 : ∀ i, am_rd M 424 i = _ := f424
  replace f442 : ∀ i, am_rd M 442 i = _ := f442
  replace f444 : ∀ i, am_rd M 444 i = _ := f444
  refine ⟨by omega, fun c i e => ?_⟩
  have ib := isr_b e
  by_cases ho : c < 0 ∨ 484 ≤ c
  · rw [kd_out ho] at e
    cases e
  have t := kd_allB ⟨c.toNat, by omega⟩
  simp only [Int.toNat_of_nonneg (show 0 ≤ c by omega)] at t
  rcases Bool.or_eq_true_iff.mp t with t | t
  · have t := List.contains_iff_mem.mp t
    simp only [List.mem_cons, List.not_mem_nil, or_false] at t
    rcases t with t | t | t | t | t <;> (rw [t] at e; cases e)
  rcases Bool.or_eq_true_iff.mp t with t | t
  · have t := List.contains_iff_mem.mp t
    unfold kd_ls at t
    simp only [List.mem_cons, List.not_mem_nil, or_false] at t
    rcases t with rfl | rfl | rfl | rfl | rfl | rfl | rfl | rfl | rfl | rfl | rfl | rfl | rfl | rfl | rfl | rfl | rfl | rfl | rfl | rfl | rfl | rfl | rfl
    · have e2 : ((decide (0 ≤ i) && decide (i < 8)) || (decide (9 ≤ i) && decide (i < 15))) = true := e
      simp only [Bool.or_eq_true, Bool.and_eq_true, decide_eq_true_eq] at e2
      rw [f1]
      have h : i = 0 ∨ i = 1 ∨ i = 2 ∨ i = 3 ∨ i = 4 ∨ i = 5 ∨ i = 6 ∨ i = 7 ∨ i = 9 ∨ i = 10 ∨ i = 11 ∨ i = 12 ∨ i = 13 ∨ i = 14 := by omega
      rcases h with rfl | rfl | rfl | rfl | rfl | rfl | rfl | rfl | rfl | rfl | rfl | rfl | rfl | rfl <;> rfl
    · have e2 : (decide (0 ≤ i) && decide (i < 5)) = true := e
      simp only [Bool.or_eq_true, Bool.and_eq_true, decide_eq_true_eq] at e2
      rw [(fg 2 (Or.inl rfl)).1]
      have h : i = 0 ∨ i = 1 ∨ i = 2 ∨ i = 3 ∨ i = 4 := by omega
      rcases h with rfl | rfl | rfl | rfl | rfl <;> rfl
    · exact K_hz rfl z8 e
    · have e2 : (decide (0 ≤ i) && decide (i < 4)) = true := e
      simp only [Bool.or_eq_true, Bool.and_eq_true, decide_eq_true_eq] at e2
      rw [f14 i e2.1 e2.2]
      show 15 + 6 * i = 14 + 1 + 6 * i
      omega
    · have e2 : (decide (i = 0) || (decide (2 ≤ i) && decide (i < 6))) = true := e
      simp only [Bool.or_eq_true, Bool.and_eq_true, decide_eq_true_eq] at e2
      have f := f15 0 (by decide) (by decide) i
      rw [show (15 : Int) + 6 * 0 = 15 from rfl] at f
      rw [f]
      have h : i = 0 ∨ i = 2 ∨ i = 3 ∨ i = 4 ∨ i = 5 := by omega
      rcases h with rfl | rfl | rfl | rfl | rfl <;> rfl
    · have e2 : (decide (i = 0) || (decide (2 ≤ i) && decide (i < 6))) = true := e
      simp only [Bool.or_eq_true, Bool.and_eq_true, decide_eq_true_eq] at e2
      have f := f15 1 (by decide) (by decide) i
      rw [show (15 : Int) + 6 * 1 = 21 from rfl] at f
      rw [f]
      have h : i = 0 ∨ i = 2 ∨ i = 3 ∨ i = 4 ∨ i = 5 := by omega
      rcases h with rfl | rfl | rfl | rfl | rfl <;> rfl
    · have e2 : (decide (i = 0) || (decide (2 ≤ i) && decide (i < 6))) = true := e
      simp only [Bool.or_eq_true, Bool.and_eq_true, decide_eq_true_eq] at e2
      have f := f15 2 (by decide) (by decide) i
      rw [show (15 : Int) + 6 * 2 = 27 from rfl] at f
      rw [f]
      have h : i = 0 ∨ i = 2 ∨ i = 3 ∨ i = 4 ∨ i = 5 := by omega
      rcases h with rfl | rfl | rfl | rfl | rfl <;> rfl
    · have e2 : (decide (i = 0) || (decide (2 ≤ i) && decide (i < 6))) = true := e
      simp only [Bool.or_eq_true, Bool.and_eq_true, decide_eq_true_eq] at e2
      have f := f15 3 (by decide) (by decide) i
      rw [show (15 : Int) + 6 * 3 = 33 from rfl] at f
      rw [f]
      have h : i = 0 ∨ i = 2 ∨ i = 3 ∨ i = 4 ∨ i = 5 := by omega
      rcases h with rfl | rfl | rfl | rfl | rfl <;> rfl
    · have e2 : (decide (0 ≤ i) && decide (i < 4)) = true := e
      simp only [Bool.or_eq_true, Bool.and_eq_true, decide_eq_true_eq] at e2
      rw [f39]
      have h : i = 0 ∨ i = 1 ∨ i = 2 ∨ i = 3 := by omega
      rcases h with rfl | rfl | rfl | rfl <;> rfl
    · have e2 : (decide (0 ≤ i) && decide (i < 2)) = true := e
      simp only [Bool.or_eq_true, Bool.and_eq_true, decide_eq_true_eq] at e2
      rw [f42]
      have h : i = 0 ∨ i = 1 := by omega
      rcases h with rfl | rfl <;> rfl
    · have e2 : (decide (0 ≤ i) && decide (i < 5)) = true := e
      simp only [Bool.or_eq_true, Bool.and_eq_true, decide_eq_true_eq] at e2
      rw [(fg 43 (Or.inr rfl)).1]
      have h : i = 0 ∨ i = 1 ∨ i = 2 ∨ i = 3 ∨ i = 4 := by omega
      rcases h with rfl | rfl | rfl | rfl | rfl <;> rfl
    · exact K_hz rfl z49 e
    · have e2 : (decide (i = 0)) = true := e
      simp only [Bool.or_eq_true, Bool.and_eq_true, decide_eq_true_eq] at e2
      rw [(fs 55 (Or.inl rfl)).2.2]
      rw [e2]
      rfl
    · have e2 : (decide (0 ≤ i) && decide (i < 30)) = true := e
      simp only [Bool.or_eq_true, Bool.and_eq_true, decide_eq_true_eq] at e2
      have f := (fs 55 (Or.inl rfl)).2.1 i e2.1 e2.2
      rw [show (55 : Int) + 1 = 56 from rfl] at f
      rw [f]
      show (55 : Int) + 2 + 6 * i = 56 + 1 + 6 * i
      omega
    · have e2 : (decide (i = 0)) = true := e
      simp only [Bool.or_eq_true, Bool.and_eq_true, decide_eq_true_eq] at e2
      rw [(fs 237 (Or.inr rfl)).2.2]
      rw [e2]
      rfl
    · have e2 : (decide (0 ≤ i) && decide (i < 30)) = true := e
      simp only [Bool.or_eq_true, Bool.and_eq_true, decide_eq_true_eq] at e2
      have f := (fs 237 (Or.inr rfl)).2.1 i e2.1 e2.2
      rw [show (237 : Int) + 1 = 238 from rfl] at f
      rw [f]
      show (237 : Int) + 2 + 6 * i = 238 + 1 + 6 * i
      omega
    · have e2 : (decide (0 ≤ i) && decide (i < 3)) = true := e
      simp only [Bool.or_eq_true, Bool.and_eq_true, decide_eq_true_eq] at e2
      rw [f420]
      have h : i = 0 ∨ i = 1 ∨ i = 2 := by omega
      rcases h with rfl | rfl | rfl <;> rfl
    · have e2 : (decide (0 ≤ i) && decide (i < 8)) = true := e
      simp only [Bool.or_eq_true, Bool.and_eq_true, decide_eq_true_eq] at e2
      rw [f424]
      have h : i = 0 ∨ i = 1 ∨ i = 2 ∨ i = 3 ∨ i = 4 ∨ i = 5 ∨ i = 6 ∨ i = 7 := by omega
      rcases h with rfl | rfl | rfl | rfl | rfl | rfl | rfl | rfl <;> rfl
    · exact K_hz rfl z425 e
    · have e2 : (decide (0 ≤ i) && decide (i < 8)) = true := e
      simp only [Bool.or_eq_true, Bool.and_eq_true, decide_eq_true_eq] at e2
      rw [f431 i e2.1 e2.2]
      show 432 + i = 431 + 1 + i
      omega
    · have e2 : (decide (0 ≤ i) && decide (i < 4)) = true := e
      simp only [Bool.or_eq_true, Bool.and_eq_true, decide_eq_true_eq] at e2
      rw [f442]
      have h : i = 0 ∨ i = 1 ∨ i = 2 ∨ i = 3 := by omega
      rcases h with rfl | rfl | rfl | rfl <;> rfl
    · have e2 : (decide (0 ≤ i) && decide (i < 4)) = true := e
      simp only [Bool.or_eq_true, Bool.and_eq_true, decide_eq_true_eq] at e2
      rw [f444]
      have h : i = 0 ∨ i = 1 ∨ i = 2 ∨ i = 3 := by omega
      rcases h with rfl | rfl | rfl | rfl <;> rfl
    · have e2 : (((((((decide (0 ≤ i) && decide (i < 3)) || (decide (6 ≤ i) && decide (i < 14))) || (decide (23 ≤ i) && decide (i < 25))) || (decide (26 ≤ i) && decide (i < 28))) || (decide (31 ≤ i) && decide (i < 36))) || (decide (37 ≤ i) && decide (i < 47))) || (decide (48 ≤ i) && decide (i < 54))) = true := e
      simp only [Bool.or_eq_true, Bool.and_eq_true, decide_eq_true_eq] at e2
      rw [am]
      have h : i = 0 ∨ i = 1 ∨ i = 2 ∨ i = 6 ∨ i = 7 ∨ i = 8 ∨ i = 9 ∨ i = 10 ∨ i = 11 ∨ i = 12 ∨ i = 13 ∨ i = 23 ∨ i = 24 ∨ i = 26 ∨ i = 27 ∨ i = 31 ∨ i = 32 ∨ i = 33 ∨ i = 34 ∨ i = 35 ∨ i = 37 ∨ i = 38 ∨ i = 39 ∨ i = 40 ∨ i = 41 ∨ i = 42 ∨ i = 43 ∨ i = 44 ∨ i = 45 ∨ i = 46 ∨ i = 48 ∨ i = 49 ∨ i = 50 ∨ i = 51 ∨ i = 52 ∨ i = 53 := by omega
      rcases h with rfl | rfl | rfl | rfl | rfl | rfl | rfl | rfl | rfl | rfl | rfl | rfl | rfl | rfl | rfl | rfl | rfl | rfl | rfl | rfl | rfl | rfl | rfl | rfl | rfl | rfl | rfl | rfl | rfl | rfl | rfl | rfl | rfl | rfl | rfl | rfl <;> rfl
  · simp only [Bool.or_eq_true, Bool.and_eq_true, decide_eq_true_eq] at t
    rcases t with t | t
    · obtain ⟨k, rfl⟩ : ∃ k, c = 57 + 6 * k := ⟨(c - 57) / 6, by omega⟩
      have kk := (kd_3B ⟨k.toNat, by omega⟩).1
      simp only [Int.toNat_of_nonneg (show 0 ≤ k by omega)] at kk
      exact K_hz kk ((fs 55 (Or.inl rfl)).1 k (by omega) (by omega)) e
    · obtain ⟨k, rfl⟩ : ∃ k, c = 239 + 6 * k := ⟨(c - 239) / 6, by omega⟩
      have kk := (kd_3B ⟨k.toNat, by omega⟩).2
      simp only [Int.toNat_of_nonneg (show 0 ≤ k by omega)] at kk
      exact K_hz kk ((fs 237 (Or.inr rfl)).1 k (by omega) (by omega)) e
end
