/-! the greatest that divides both -/
theorem ax_lrem {x y : Int} (h1 : 0 ≤ x) (h2 : x < 4611686018427387904) (h3 : 0 < y) (h4 : y < 4611686018427387904) : am_lrem x y = x % y := by
  have ex : (Int64.ofInt x).toInt = x := ax_w64 (by omega) (by omega)
  have ey : (Int64.ofInt y).toInt = y := ax_w64 (by omega) (by omega)
  have e0 : Int.tdiv x y = x / y := Int.tdiv_eq_ediv_of_nonneg h1
  have e1 : 0 ≤ x / y := Int.ediv_nonneg h1 (by omega)
  have e2 : x / y ≤ x := Int.ediv_le_self y h1
  have e3 : y * (x / y) = x - x % y := by have := Int.emod_add_mul_ediv x y; omega
  have e4 := Int.emod_nonneg x (show y ≠ 0 by omega)
  have e5 := Int.emod_lt_of_pos x h3
  have e6 : 0 ≤ y * (x / y) := Int.mul_nonneg (by omega) e1
  have e7 : x / y * y = y * (x / y) := Int.mul_comm _ _
  unfold am_lrem
  rw [Int64.toInt_sub, Int64.toInt_mul, Int64.toInt_div, ex, ey, e0]
  generalize x / y = q at *
  have b1 : Int.bmod q (2 ^ 64) = q := Int.bmod_eq_of_le (by omega) (by omega)
  rw [b1, e7]
  generalize y * q = p at *
  have b2 : Int.bmod p (2 ^ 64) = p := Int.bmod_eq_of_le (by omega) (by omega)
  rw [b2, e3, show x - (x - x % y) = x % y by omega]
  exact Int.bmod_eq_of_le (by omega) (by omega)
def gI (a b : Int) : Int := (Nat.gcd a.toNat b.toNat : Int)
theorem emI {a b : Int} (h1 : 0 ≤ a) (h2 : 0 ≤ b) : a % b = ((a.toNat % b.toNat : Nat) : Int) := by
  rw [Int.natCast_emod, Int.toNat_of_nonneg h1, Int.toNat_of_nonneg h2]
theorem gI_0 {a : Int} (h : 0 ≤ a) : gI a 0 = a := by
  unfold gI
  rw [Int.toNat_zero, Nat.gcd_zero_right, Int.toNat_of_nonneg h]
theorem gI_s {a b : Int} (h1 : 0 ≤ a) (h2 : 0 ≤ b) : gI a b = gI b (a % b) := by
  unfold gI
  rw [emI h1 h2, Int.toNat_natCast, Nat.gcd_comm a.toNat, Nat.gcd_rec, Nat.gcd_comm]
theorem gI_c {a b : Int} : gI a b = gI b a := by
  unfold gI
  rw [Nat.gcd_comm]
theorem gI_nn {a b : Int} : 0 ≤ gI a b := by
  unfold gI
  omega
theorem gI_pos {a b : Int} (h : 0 < b) : gI a b ≠ 0 := by
  unfold gI
  have := Nat.gcd_pos_of_pos_right (n := b.toNat) a.toNat (by omega)
  omega
theorem md2 {b r : Nat} (h0 : 0 < r) (h : r < b) : 2 * (b % r) < b := by
  have h1 := Nat.mod_lt b h0
  have h2 := Nat.mod_eq_sub_mod (Nat.le_of_lt h)
  have h3 := Nat.mod_le (b - r) r
  omega
section
variable {M : am_M} {d : Nat}
theorem c_35g : ∀ (j : Nat) (a b i : Int), 0 ≤ a → a < 4611686018427387904 → 0 ≤ b → b < ((2 ^ j : Nat) : Int) → b < 4611686018427387904 → 0 ≤ i → i + 2 * (j : Int) < 199 → am_Ex d 35 3 [(1, a), am_N, (1, b), am_N, (0, i), am_N, am_N] [] M = some (gI a b, M) := by
  have base : ∀ a i, 0 ≤ a → i < 200 → am_Ex d 35 3 [(1, a), am_N, (1, 0), am_N, (0, i), am_N, am_N] [] M = some (gI a 0, M) := fun a i h1 h2 => by
    rw [aq_35_3, if_pos h2, if_pos (by rw [ax_ce]), gI_0 h1]
  have step : ∀ a b i, 0 ≤ a → a < 4611686018427387904 → 0 < b → b < 4611686018427387904 → 0 ≤ i → i < 199 → am_Ex d 35 3 [(1, a), am_N, (1, b), am_N, (0, i), am_N, am_N] [] M = am_Ex d 35 3 [(1, b), am_N, (1, a % b), am_N, (0, i + 1), am_N, am_N] [] M := fun a b i h1 h2 h3 h4 h5 h6 => by
    rw [aq_35_3, if_pos (by omega), if_neg (by rw [ax_ce]; omega), if_neg (by omega), ax_lrem h1 h2 h3 h4, ax_let, ax_w32 (by omega) (by omega), ax_let]
  intro j
  induction j with
  | zero =>
    intro a b i a0 a1 b0 b1 b2 i0 i1
    have : b = 0 := by have : (2 ^ 0 : Nat) = 1 := rfl; omega
    subst this
    exact base a i a0 (by omega)
  | succ j ih =>
    intro a b i a0 a1 b0 b1 b2 i0 i1
    by_cases hb : b = 0
    · subst hb
      exact base a i a0 (by omega)
    · have r0 := Int.emod_nonneg a hb
      have r1 := Int.emod_lt_of_pos a (show 0 < b by omega)
      rw [step a b i a0 a1 (by omega) b2 i0 (by omega), gI_s a0 b0]
      generalize a % b = r at *
      by_cases hr : r = 0
      · subst hr
        exact base b (i + 1) b0 (by omega)
      · have h2 := md2 (b := b.toNat) (r := r.toNat) (by omega) (by omega)
        have h3 := emI b0 r0
        have h4 : (2 ^ (j + 1) : Nat) = 2 ^ j * 2 := Nat.pow_succ ..
        rw [step b r (i + 1) b0 b2 (by omega) (by omega) (by omega) (by omega), gI_s b0 r0]
        exact ih r (b % r) (i + 1 + 1) r0 (by omega) (by omega) (by omega) (by omega) (by omega) (by omega)
theorem c_35 {a b : Int} (a0 : 0 ≤ a) (a1 : a < 4611686018427387904) (b0 : 0 ≤ b) (b1 : b < 4611686018427387904) : am_Call d 35 [(1, a), (1, b)] M = some (gI a b, M) := by
  rw [aq_35]
  exact c_35g 62 a b 0 a0 a1 b0 (by have : (2 ^ 62 : Nat) = 4611686018427387904 := rfl; omega) b1 (by omega) (by omega)
theorem m_94g : ∀ (j : Nat) (a b : Int), 0 ≤ a → a < 4611686018427387904 → 0 ≤ b → b ≤ (j : Int) → b < 4611686018427387904 → am_Ex d 94 5 [am_N, am_N, am_N, am_N, (1, a), am_N, (1, b), am_N, am_N, am_N] [] M = some (gI a b, M) := by
  intro j
  induction j with
  | zero =>
    intro a b a0 a1 b0 b1 b2
    have : b = 0 := by omega
    subst this
    rw [aq_94_5, if_pos (by rw [ax_ce]), gI_0 a0]
  | succ j ih =>
    intro a b a0 a1 b0 b1 b2
    by_cases hb : b = 0
    · subst hb
      rw [aq_94_5, if_pos (by rw [ax_ce]), gI_0 a0]
    · have r0 := Int.emod_nonneg a hb
      have r1 := Int.emod_lt_of_pos a (show 0 < b by omega)
      rw [aq_94_5, if_neg (by rw [ax_ce]; exact hb), if_neg hb, ax_lrem a0 a1 (by omega) b2, ax_let, gI_s a0 b0]
      exact ih b (a % b) b0 b2 r0 (by omega) (by omega)
theorem m_94 {a b : Int} (a0 : 0 ≤ a) (a1 : a < 4611686018427387904) (b0 : 0 ≤ b) (b1 : b < 4611686018427387904) : am_Call d 94 [(1, a), (1, b)] M = some (gI a b, M) := by
  rw [aq_94]
  exact m_94g b.toNat a b a0 a1 b0 (by omega) b1
theorem m_161 {a b l : Int} (a0 : 0 ≤ a) (a1 : a < 4611686018427387904) (b0 : 0 < b) (b1 : b < 4611686018427387904) : am_Call d 161 [(1, a), (1, b), (0, l)] M = some (if l = 0 then am_ldiv a (gI a b) else am_ldiv b (gI a b), M) := by
  rw [aq_161, m_94 (by omega) b1 a0 a1, Option.bind_some]
  dsimp only []
  have hg : gI b a = gI a b := gI_c
  rw [hg]
  have hp := gI_pos (a := a) b0
  by_cases h : l = 0
  · rw [if_pos h, if_pos h, if_neg hp]
  · rw [if_neg h, if_neg h, if_neg hp]
end
