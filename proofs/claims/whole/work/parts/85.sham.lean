/-! shammed -/
def shG (W R : Int → Int) (h q k : Int) (a : Int × Int) : Int × Int := if am_and (am_shr h (W k)) 1 = 1 then (if R k = 1 then (a.1 * (10 - q), a.2 * 9) else (a.1 * q, a.2)) else a
def shI (n k : Int) (a : Int × Int) : Prop := (0 ≤ k ∧ k ≤ n) ∧ (0 ≤ a.1 ∧ a.1 ≤ ((10 ^ (k.toNat + 1) : Nat) : Int)) ∧ (0 ≤ a.2 ∧ a.2 ≤ ((10 ^ (k.toNat + 1) : Nat) : Int))
theorem sh_m {x q B : Int} (x0 : 0 ≤ x) (x1 : x ≤ B) (q0 : 0 ≤ q) (q1 : q ≤ 10) : 0 ≤ x * q ∧ x * q ≤ B * 10 := by
  have h1 := Int.mul_nonneg x0 q0
  have h2 := Int.mul_le_mul_of_nonneg_left q1 x0
  have h3 := Int.mul_le_mul_of_nonneg_right x1 (show (0 : Int) ≤ 10 by omega)
  exact ⟨h1, by omega⟩
theorem sh_p {k : Int} (k0 : 0 ≤ k) (k8 : k ≤ 8) : ((10 ^ (k.toNat + 1) : Nat) : Int) ≤ 1000000000 := by
  have h := Nat.pow_le_pow_right (n := 10) (show 10 > 0 by decide) (show k.toNat + 1 ≤ 9 by omega)
  have h2 : (10 ^ 9 : Nat) = 1000000000 := by decide
  omega
theorem shG_I {W R : Int → Int} {h q k n : Int} {a : Int × Int} (I : shI n k a) (k1 : k < n) (q0 : 0 ≤ q) (q1 : q ≤ 10) : shI n (k + 1) (shG W R h q k a) := by
  obtain ⟨⟨k0, -⟩, ⟨a0, a1⟩, b0, b1⟩ := I
  have e : (k + 1).toNat + 1 = (k.toNat + 1) + 1 := by omega
  have e2 : (10 ^ (k.toNat + 1 + 1) : Nat) = 10 ^ (k.toNat + 1) * 10 := Nat.pow_succ ..
  unfold shI shG
  rw [e, e2]
  generalize (10 ^ (k.toNat + 1) : Nat) = B at *
  have m1 := sh_m a0 a1 (show 0 ≤ 10 - q by omega) (show 10 - q ≤ 10 by omega)
  have m2 := sh_m a0 a1 q0 q1
  have m3 := sh_m b0 b1 (show (0 : Int) ≤ 9 by omega) (show (9 : Int) ≤ 10 by omega)
  refine ⟨by omega, ?_⟩
  (repeat' split) <;> (try dsimp only) <;> omega
section
variable {M : am_M} {d : Nat} {W R : Int → Int} {n h q l : Int}
def shR (a : Int × Int) (l : Int) : Int := if a.1 + a.2 = 0 then (if l = 0 then 0 else 1) else if l = 0 then am_ldiv a.1 (gI a.1 (a.1 + a.2)) else am_ldiv (a.1 + a.2) (gI a.1 (a.1 + a.2))
theorem c_240s (hK : ax_K M) (hn : am_rd M 2 8 = n) (n8 : n ≤ 8) (hW : ∀ j, 0 ≤ j → j < n → am_rd M 7 j = W j) (hR : ∀ j, 0 ≤ j → j < n → (am_and (am_shr (am_rd M 2 9) j) 1 = 1 ↔ R j = 1)) (q0 : 0 ≤ q) (q1 : q ≤ 10) (j : Nat) (k : Int) (a : Int × Int) (hj : k + j = n) (I : shI n k a) : am_Ex d 240 18 [(2, 442), am_N, am_N, (0, q), (0, l), (0, h), (1, a.1), am_N, (1, a.2), am_N, (0, k), am_N, am_N, am_N] [] M = some (shR (ax_fo (shG W R h q) j k a) l, M) := by
  refine ax_loop (X := fun k a => am_Ex d 240 18 [(2, 442), am_N, am_N, (0, q), (0, l), (0, h), (1, a.1), am_N, (1, a.2), am_N, (0, k), am_N, am_N, am_N] [] M) (f := shG W R h q) (E := fun a => some (shR a l, M)) (n := n) (fun k a => shI n k a) (fun k a I k1 => ⟨?_, shG_I I k1 q0 q1⟩) (fun a I => ?_) j k a hj I
  · obtain ⟨x, y⟩ := a
    obtain ⟨⟨k0, k2⟩, ⟨x0, x1⟩, y0, y1⟩ := I
    dsimp only at x0 x1 y0 y1
    have p := sh_p k0 (by omega : k ≤ 8)
    generalize ((10 ^ (k.toNat + 1) : Nat) : Int) = B at *
    have m1 := sh_m x0 x1 (show 0 ≤ 10 - q by omega) (show 10 - q ≤ 10 by omega)
    have m2 := sh_m x0 x1 q0 q1
    have m3 := sh_m y0 y1 (show (0 : Int) ≤ 9 by omega) (show (9 : Int) ≤ 10 by omega)
    have e62 : ∀ x y, am_Ex d 240 62 [(2, 442), am_N, am_N, (0, q), (0, l), (0, h), (1, x), am_N, (1, y), am_N, (0, k), am_N, am_N, am_N] [] M = am_Ex d 240 18 [(2, 442), am_N, am_N, (0, q), (0, l), (0, h), (1, x), am_N, (1, y), am_N, (0, k + 1), am_N, am_N, am_N] [] M := fun x y => by
      rw [aq_240_62, ax_w32 (by omega) (by omega), ax_let]
    show am_Ex d 240 18 [(2, 442), am_N, am_N, (0, q), (0, l), (0, h), (1, x), am_N, (1, y), am_N, (0, k), am_N, am_N, am_N] [] M = am_Ex d 240 18 [(2, 442), am_N, am_N, (0, q), (0, l), (0, h), (1, (shG W R h q k (x, y)).1), am_N, (1, (shG W R h q k (x, y)).2), am_N, (0, k + 1), am_N, am_N, am_N] [] M
    rw [aq_240_18, kr_442_0 hK, show am_ob 442 7 = true from rfl, show am_ob 2 2 = true from rfl, ax_gt, ax_gt, hn, if_pos k1, if_pos (by omega), kr_2_4 hK, ax_a_7, ax_gi (by omega) (by omega), hW k k0 k1]
    unfold shG
    by_cases h1 : am_and (am_shr h (W k)) 1 = 1
    · rw [if_neg (by omega), c_17 hK, Option.bind_some, if_pos h1]
      dsimp only []
      have hr := hR k k0 k1
      by_cases h2 : R k = 1
      · rw [if_neg (by rw [ax_b0]; exact fun p => p (hr.mpr h2)), ax_w32 (x := 10 - q) (by omega) (by omega), ax_w64 (x := x * (10 - q)) (by omega) (by omega), ax_let, if_neg (by rw [ax_b0]; exact fun p => p (hr.mpr h2)), ax_w64 (x := y * 9) (by omega) (by omega), ax_let, e62, if_pos h2]
      · rw [if_pos (by rw [ax_b0]; exact fun p => h2 (hr.mp p)), ax_w64 (x := x * q) (by omega) (by omega), ax_let, if_pos (by rw [ax_b0]; exact fun p => h2 (hr.mp p)), Int.mul_one, ax_w64 (x := y) (by omega) (by omega), ax_let, e62, if_neg h2]
    · rw [if_pos (by have := ax_01 (am_shr h (W k)); omega), e62, if_neg h1]
  · obtain ⟨x, y⟩ := a
    obtain ⟨⟨k0, k2⟩, ⟨x0, x1⟩, y0, y1⟩ := I
    dsimp only at x0 x1 y0 y1
    have p := sh_p k0 n8
    show am_Ex d 240 18 [(2, 442), am_N, am_N, (0, q), (0, l), (0, h), (1, x), am_N, (1, y), am_N, (0, n), am_N, am_N, am_N] [] M = some (shR (x, y) l, M)
    rw [aq_240_18, kr_442_0 hK, show am_ob 442 7 = true from rfl, show am_ob 2 2 = true from rfl, ax_gt, ax_gt, hn, if_neg (Int.lt_irrefl n), aq_240_65, ax_w64 (x := x + y) (by omega) (by omega), ax_let, c_35 x0 (by omega) (by omega) (by omega), Option.bind_some]
    dsimp only []
    unfold shR
    dsimp only []
    by_cases hs : x + y = 0
    · rw [if_pos (by rw [ax_ce]; exact hs), if_pos hs, aq_240_82]
      by_cases hl : l = 0
      · rw [if_pos hl, if_pos hl]
      · rw [if_neg hl, if_neg hl]
    · have hp := gI_pos (a := x) (b := x + y) (by omega)
      rw [if_neg (by rw [ax_ce]; exact hs), if_neg (by rw [ax_ce]; exact hp), if_neg hs]
      by_cases hl : l = 0
      · rw [if_pos hl, if_pos hl, if_neg hp]
      · rw [if_neg hl, if_neg hl, if_neg hp]
theorem m_269s (hK : ax_K M) (hn : am_rd M 448 6 = n) (n8 : n ≤ 8) (hW : ∀ j, 0 ≤ j → j < n → am_rd M 448 (38 + 2 * j) = W j) (hR : ∀ j, 0 ≤ j → j < n → am_rd M 448 (39 + 2 * j) = R j) (q0 : 0 ≤ q) (q1 : q ≤ 10) (j : Nat) (k : Int) (a : Int × Int) (hj : k + j = n) (I : shI n k a) : am_Ex d 269 34 [(2, 447), am_N, am_N, (0, q), (0, l), (0, h), (1, a.1), am_N, (1, a.2), am_N, (0, k), am_N] [] M = some (shR (ax_fo (shG W R h q) j k a) l, M) := by
  refine ax_loop (X := fun k a => am_Ex d 269 34 [(2, 447), am_N, am_N, (0, q), (0, l), (0, h), (1, a.1), am_N, (1, a.2), am_N, (0, k), am_N] [] M) (f := shG W R h q) (E := fun a => some (shR a l, M)) (n := n) (fun k a => shI n k a) (fun k a I k1 => ⟨?_, shG_I I k1 q0 q1⟩) (fun a I => ?_) j k a hj I
  · obtain ⟨x, y⟩ := a
    obtain ⟨⟨k0, k2⟩, ⟨x0, x1⟩, y0, y1⟩ := I
    dsimp only at x0 x1 y0 y1
    have p := sh_p k0 (by omega : k ≤ 8)
    generalize ((10 ^ (k.toNat + 1) : Nat) : Int) = B at *
    have m1 := sh_m x0 x1 (show 0 ≤ 10 - q by omega) (show 10 - q ≤ 10 by omega)
    have m2 := sh_m x0 x1 q0 q1
    have m3 := sh_m y0 y1 (show (0 : Int) ≤ 9 by omega) (show (9 : Int) ≤ 10 by omega)
    have e88 : ∀ x y, am_Ex d 269 88 [(2, 447), am_N, am_N, (0, q), (0, l), (0, h), (1, x), am_N, (1, y), am_N, (0, k), am_N] [] M = am_Ex d 269 34 [(2, 447), am_N, am_N, (0, q), (0, l), (0, h), (1, x), am_N, (1, y), am_N, (0, k + 1), am_N] [] M := fun x y => by
      rw [aq_269_88, ax_w32 (by omega) (by omega), ax_let]
    show am_Ex d 269 34 [(2, 447), am_N, am_N, (0, q), (0, l), (0, h), (1, x), am_N, (1, y), am_N, (0, k), am_N] [] M = am_Ex d 269 34 [(2, 447), am_N, am_N, (0, q), (0, l), (0, h), (1, (shG W R h q k (x, y)).1), am_N, (1, (shG W R h q k (x, y)).2), am_N, (0, k + 1), am_N] [] M
    rw [aq_269_34, kr_447_0 hK, show am_ob 447 11 = true from rfl, ax_gt, ax_a_448, ax_gi (by omega) (by omega), hn, if_pos k1, ax_w32 (x := 2 * k) (by omega) (by omega), ax_w32 (x := 38 + 2 * k) (by omega) (by omega), ax_a_448, ax_gi (by omega) (by omega), hW k k0 k1, m_65, Option.bind_some]
    dsimp only []
    unfold shG
    by_cases h1 : am_and (am_shr h (W k)) 1 = 1
    · rw [if_neg (by rw [ax_b0]; exact fun p => p h1), if_pos h1, kr_447_0 hK, ax_w32 (x := 38 + 2 * k + 1) (by omega) (by omega), ax_a_448, ax_gi (by omega) (by omega), show 38 + 2 * k + 1 = 39 + 2 * k by omega, hR k k0 k1]
      by_cases h2 : R k = 1
      · rw [if_pos h2, if_neg (by decide), ax_w32 (x := 10 - q) (by omega) (by omega), ax_w64 (x := x * (10 - q)) (by omega) (by omega), ax_let, if_neg (by decide), ax_w64 (x := y * 9) (by omega) (by omega), ax_let, e88, if_pos h2]
      · rw [if_neg h2, if_pos rfl, ax_w64 (x := x * q) (by omega) (by omega), ax_let, if_pos rfl, Int.mul_one, ax_w64 (x := y) (by omega) (by omega), ax_let, e88, if_neg h2]
    · rw [if_pos (by rw [ax_b0]; exact h1), e88, if_neg h1]
  · obtain ⟨x, y⟩ := a
    obtain ⟨⟨k0, k2⟩, ⟨x0, x1⟩, y0, y1⟩ := I
    dsimp only at x0 x1 y0 y1
    have p := sh_p k0 n8
    show am_Ex d 269 34 [(2, 447), am_N, am_N, (0, q), (0, l), (0, h), (1, x), am_N, (1, y), am_N, (0, n), am_N] [] M = some (shR (x, y) l, M)
    rw [aq_269_34, kr_447_0 hK, show am_ob 447 11 = true from rfl, ax_gt, ax_a_448, ax_gi (by omega) (by omega), hn, if_neg (Int.lt_irrefl n), ax_w64 (x := x + y) (by omega) (by omega)]
    unfold shR
    dsimp only []
    by_cases hs : x + y = 0
    · rw [if_pos (by rw [ax_ce]; exact hs), if_pos hs]
      by_cases hl : l = 0
      · rw [if_pos hl, if_pos hl]
      · rw [if_neg hl, if_neg hl]
    · rw [if_neg (by rw [ax_ce]; exact hs), m_161 x0 (by omega) (by omega) (by omega), Option.bind_some, if_neg hs]
end
