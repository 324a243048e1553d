/-! a token, of both -/
def wd (k : Int) : Int := if k ≤ 11 then k else if k ≤ 20 then k + 8 else if k ≤ 24 then k - 5 else k - 13
def sg2 (k : Int) : Int := if k = 37 then 40 else if k = 38 then 41 else if k = 39 then 59 else sgn k
def cor (k n s i : Int) : Prop := (0 ≤ k ∧ k ≤ 28 ∧ s = 1 ∧ i = wd k) ∨ (k = 42 ∧ s = 2 ∧ 0 ≤ n ∧ (i = n ∨ (10000 ≤ i ∧ 10000 ≤ n))) ∨ (k = 43 ∧ (s = 4 ∨ (s = 3 ∧ i = 44))) ∨ (k = 44 ∧ s = 0) ∨ (29 ≤ k ∧ k ≤ 41 ∧ s = 3 ∧ i = sg2 k)
section
variable {k n s i : Int}
theorem sg2_B : ∀ k : Fin 13, sg2 (29 + (k.val : Int)) = [60, 62, 61, 35, 43, 45, 42, 47, 40, 41, 59, 300, 301].getD k.val 0 := by decide +kernel
theorem sg2_v (h1 : 29 ≤ k) (h2 : k ≤ 41) : (k = 29 ∧ sg2 k = 60) ∨ (k = 30 ∧ sg2 k = 62) ∨ (k = 31 ∧ sg2 k = 61) ∨ (k = 32 ∧ sg2 k = 35) ∨ (k = 33 ∧ sg2 k = 43) ∨ (k = 34 ∧ sg2 k = 45) ∨ (k = 35 ∧ sg2 k = 42) ∨ (k = 36 ∧ sg2 k = 47) ∨ (k = 37 ∧ sg2 k = 40) ∨ (k = 38 ∧ sg2 k = 41) ∨ (k = 39 ∧ sg2 k = 59) ∨ (k = 40 ∧ sg2 k = 300) ∨ (k = 41 ∧ sg2 k = 301) := by
  have : k = 29 ∨ k = 30 ∨ k = 31 ∨ k = 32 ∨ k = 33 ∨ k = 34 ∨ k = 35 ∨ k = 36 ∨ k = 37 ∨ k = 38 ∨ k = 39 ∨ k = 40 ∨ k = 41 := by omega
  rcases this with rfl | rfl | rfl | rfl | rfl | rfl | rfl | rfl | rfl | rfl | rfl | rfl | rfl <;> decide
theorem wd_v (h1 : 0 ≤ k) (h2 : k ≤ 28) : (k ≤ 11 ∧ wd k = k) ∨ (12 ≤ k ∧ k ≤ 20 ∧ wd k = k + 8) ∨ (21 ≤ k ∧ k ≤ 24 ∧ wd k = k - 5) ∨ (25 ≤ k ∧ wd k = k - 13) := by
  unfold wd
  split
  · omega
  · split
    · omega
    · split <;> omega
theorem cor_s (c : cor k n s i) (h : 29 ≤ k) (h2 : k ≤ 41) : s = 3 ∧ i = sg2 k := by unfold cor at c; omega
theorem cor_w (c : cor k n s i) (h : 0 ≤ k) (h2 : k ≤ 28) : s = 1 ∧ i = wd k := by unfold cor at c; omega
theorem cor_num (c : cor k n s i) : k = 42 ↔ s = 2 := by unfold cor at c; omega
theorem cor_lim (c : cor k n s i) (h : k = 42) : (n ≤ 9999 ↔ i ≤ 9999) ∧ (n ≤ 9999 → i = n) ∧ 0 ≤ n := by unfold cor at c; omega
theorem cor_big (c : cor k n s i) (h : k = 42) {lo hi : Int} (h1 : hi ≤ 9999) : (n < lo ∨ hi < n ↔ i < lo ∨ hi < i) ∨ lo > 9999 := by unfold cor at c; omega
theorem cor_end (c : cor k n s i) : k = 44 ↔ s = 0 := by unfold cor at c; omega
theorem cor_wrd (c : cor k n s i) : s = 1 → 0 ≤ i ∧ i ≤ 28 := by
  intro h
  have : 0 ≤ k ∧ k ≤ 28 ∧ i = wd k := by unfold cor at c; omega
  have := wd_v this.1 this.2.1
  omega
theorem cor_1 (c : cor k n s i) (h : s = 1) : 0 ≤ k ∧ k ≤ 28 ∧ i = wd k := by unfold cor at c; omega
theorem cor_3 (c : cor k n s i) (h : s = 3) : (29 ≤ k ∧ k ≤ 41 ∧ i = sg2 k) ∨ (k = 43 ∧ i = 44) := by unfold cor at c; omega
theorem cor_name (c : cor k n s i) : (12 ≤ k ∧ k ≤ 20) ↔ (s = 1 ∧ 19 < i) := by
  constructor
  · intro h
    have := cor_w c (by omega) (by omega)
    have := wd_v (k := k) (by omega) (by omega)
    omega
  · intro h
    have := cor_1 c h.1
    have := wd_v this.1 this.2.1
    omega
theorem cor_nm (c : cor k n s i) (h : 12 ≤ k ∧ k ≤ 20) : i - 20 = k - 12 := by
  have := cor_w c (by omega) (by omega)
  have := wd_v (k := k) (by omega) (by omega)
  omega
theorem cor_word (c : cor k n s i) {w v : Int} (hw : 0 ≤ w ∧ w ≤ 28) (hv : wd w = v) : (s = 1 ∧ i = v) ↔ k = w := by
  constructor
  · intro h
    have h1 := cor_1 c h.1
    have := wd_v h1.1 h1.2.1
    have := wd_v hw.1 hw.2
    omega
  · intro h
    have := cor_w c (by omega) (by omega)
    rw [h] at this
    omega
theorem cor_cls (c : cor k n s i) : (s = 1 ∧ i ≤ 11) ↔ (0 ≤ k ∧ k ≤ 11) := by
  constructor
  · intro h
    have h1 := cor_1 c h.1
    have := wd_v h1.1 h1.2.1
    omega
  · intro h
    have := cor_w c (by omega) (by omega)
    have := wd_v (k := k) (by omega) (by omega)
    omega
theorem cor_sign (c : cor k n s i) {w v : Int} (hw : 29 ≤ w ∧ w ≤ 41) (hv : sg2 w = v) : (s = 3 ∧ i = v) ↔ k = w := by
  constructor
  · intro h
    have h2 := sg2_v hw.1 hw.2
    rcases cor_3 c h.1 with h1 | h1
    · have := sg2_v h1.1 h1.2.1
      omega
    · omega
  · intro h
    have := cor_s c (by omega) (by omega)
    rw [h] at this
    omega
theorem sgn_sg2 (h : (29 ≤ k ∧ k ≤ 36) ∨ k = 40 ∨ k = 41) : sg2 k = sgn k := by
  unfold sg2
  rw [if_neg (by omega), if_neg (by omega), if_neg (by omega)]
theorem cor_ari (c : cor k n s i) : (s = 3 ∧ (i = 43 ∨ i = 45 ∨ i = 42 ∨ i = 47)) ↔ (33 ≤ k ∧ k ≤ 36) := by
  constructor
  · intro h
    rcases cor_3 c h.1 with h1 | h1
    · have := sg2_v h1.1 h1.2.1
      omega
    · omega
  · intro h
    have := cor_s c (by omega) (by omega)
    have := sg2_v (k := k) (by omega) (by omega)
    omega
theorem isQ_v : isQ i ≠ 0 ↔ (i = 60 ∨ i = 62 ∨ i = 61 ∨ i = 35 ∨ i = 300 ∨ i = 301) := by
  unfold isQ
  repeat' split
  all_goals omega
theorem cor_cmp (c : cor k n s i) : (s = 3 ∧ isQ i ≠ 0) ↔ ((29 ≤ k ∧ k ≤ 32) ∨ k = 40 ∨ k = 41) := by
  rw [isQ_v]
  constructor
  · intro h
    rcases cor_3 c h.1 with h1 | h1
    · have := sg2_v h1.1 h1.2.1
      omega
    · omega
  · intro h
    have := cor_s c (by omega) (by omega)
    have := sg2_v (k := k) (by omega) (by omega)
    omega
theorem nm_may {l : Int} (h : 12 ≤ k ∧ k ≤ 20) : nmL l k = mayN (k - 12) l := by
  unfold nmL mayN
  repeat' split
  all_goals first | rfl | (exfalso; omega)
end
