/-! the constructors: foresight, the scripts -/
section
variable {d : Nat}
theorem mna_1 {M : am_M} {n : Nat} : (am_mna M n).1 = M.1 + 1 + n := rfl
theorem i_105 {M : am_M} (hM : (M.1 : Int) = 425) (hz : ∀ i, am_rd M 424 i = 0) : ax_ok (am_Call d 105 [(2, 424), (2, 2), (2, 8), (2, 39), (2, 42)] M) (fun _ M' => (M'.1 : Int) = 442 ∧ HZ M' 425 ∧ (∀ i, 0 ≤ i → i < 8 → am_rd M' 431 i = 432 + i) ∧ (∀ i, am_rd M' 424 i = if i = 3 then 42 else if i = 2 then 39 else if i = 1 then 8 else if i = 0 then 2 else if i = 7 then 441 else if i = 6 then 440 else if i = 5 then 431 else if i = 4 then 425 else 0) ∧ ∀ c i, (c < 424 ∨ 441 < c) → am_rd M' c i = am_rd M c i) := by
  have hA : ((am_al M).1 : Int) = 425 + 1 := by rw [al_1]; omega
  obtain ⟨r1, M1, e1, n1, z1, f1⟩ := i_21 (d := d) HH_425 hA (fun i => by rw [al_at hM, if_pos rfl])
  rw [aq_105, ax_gtb (by rfl), hM, ax_gtb (by rfl), ax_let, ax_gtb (by rfl), e1, Option.bind_some]
  dsimp only []
  rw [ax_gtb (by rfl), ax_let]
  obtain ⟨n2, s2, f2⟩ := i_wr (M := M1) (h := 424) (k := 4) (v := 425)
  generalize am_wr M1 424 4 425 = M2 at *
  have n2 : (M2.1 : Int) = 431 := by omega
  have nn : M2.1 = 431 := by omega
  have bm : am_mt M2 16 8 = true := by unfold am_mt; rw [nn]; decide +kernel
  rw [bm, ax_gt, ax_let, n2, ax_let]
  have n3 : ((am_wr (am_mna M2 (8 : Int).toNat) 424 5 431).1 : Int) = 440 := by rw [wr_1, mna_1, nn]; decide
  have r3 : ∀ c i, am_rd (am_wr (am_mna M2 (8 : Int).toNat) 424 5 431) c i = if c = 424 ∧ i = 5 then 431 else if c = 431 then (if 0 ≤ i ∧ i < 8 then 432 + i else 0) else if 431 < c ∧ c < 440 then 0 else am_rd M2 c i := fun c i => by
    rw [ax_rw]
    show (if c = 424 ∧ i = 5 then (431 : Int) else if c = (M2.1 : Int) then (if 0 ≤ i ∧ i < ((8 : Int).toNat : Int) then (M2.1 : Int) + 1 + i else 0) else if (M2.1 : Int) < c ∧ c < ((M2.1 + 1 + (8 : Int).toNat : Nat) : Int) then 0 else am_rd M2 c i) = _
    rw [nn]
    rfl
  generalize am_wr (am_mna M2 (8 : Int).toNat) 424 5 431 = M3 at *
  rw [n3, ax_gtb (by rfl), ax_let, ax_let]
  obtain ⟨n4, s4, f4, z4⟩ := i_st (M := M3) (h := 424) (k := 6) (v := 440) n3 (by omega)
  generalize am_wr (am_al M3) 424 6 440 = M4 at *
  have n4 : (M4.1 : Int) = 441 := by omega
  rw [n4, ax_gtb (by rfl), ax_let, ax_let]
  obtain ⟨n5, s5, f5, z5⟩ := i_st (M := M4) (h := 424) (k := 7) (v := 441) n4 (by omega)
  generalize am_wr (am_al M4) 424 7 441 = M5 at *
  rw [ax_let]
  obtain ⟨n6, s6, f6⟩ := i_wr (M := M5) (h := 424) (k := 0) (v := 2)
  generalize am_wr M5 424 0 2 = M6 at *
  rw [ax_let]
  obtain ⟨n7, s7, f7⟩ := i_wr (M := M6) (h := 424) (k := 1) (v := 8)
  generalize am_wr M6 424 1 8 = M7 at *
  rw [ax_let]
  obtain ⟨n8, s8, f8⟩ := i_wr (M := M7) (h := 424) (k := 2) (v := 39)
  generalize am_wr M7 424 2 39 = M8 at *
  rw [ax_let]
  obtain ⟨n9, s9, f9⟩ := i_wr (M := M8) (h := 424) (k := 3) (v := 42)
  generalize am_wr M8 424 3 42 = M9 at *
  have up : ∀ c i, c ≠ 424 → c ≠ 440 → c ≠ 441 → am_rd M9 c i = am_rd M3 c i := fun c i h1 h2 h3 => by
    rw [s9 c i h1, s8 c i h1, s7 c i h1, s6 c i h1, s5 c i h1 h3, s4 c i h1 h2]
  refine ax_ok_some ⟨by omega, HZ_same z1 fun c i c1 c2 => ?_, fun i i0 i1 => ?_, fun i => ?_, fun c i hc => ?_⟩
  · rw [up c i (by omega) (by omega) (by omega), r3, if_neg (by omega), if_neg (by omega), if_neg (by omega), s2 c i (by omega)]
  · rw [up 431 i (by omega) (by omega) (by omega), r3, if_neg (by omega), if_pos rfl, if_pos ⟨i0, i1⟩]
  · have q : am_rd M3 424 i = if i = 5 then 431 else if i = 4 then 425 else 0 := by
      rw [r3]
      by_cases e : i = 5
      · rw [if_pos ⟨rfl, e⟩, if_pos e]
      · rw [if_neg fun h => e h.2, if_neg e, if_neg (by omega), if_neg (by omega), f2]
        by_cases e4 : i = 4
        · rw [if_pos e4, if_pos e4]
        · rw [if_neg e4, if_neg e4, f1 424 i (by omega), al_at hM, if_neg (by omega), hz]
    rw [f9, f8, f7, f6, f5, f4, q]
  · rw [up c i (by omega) (by omega) (by omega), r3, if_neg (by omega), if_neg (by omega), if_neg (by omega), s2 c i (by omega), f1 c i (by omega), al_at hM, if_neg (by omega)]
/-- the four scripts -/
theorem i_181l : ∀ (j : Nat) (k : Int) (M : am_M), k + j = 4 → 0 ≤ k → (M.1 : Int) = 15 + 6 * k → ∃ M', am_Ex d 181 16 [(2, 1), (2, 2), (2, 8), (2, 14), (0, k), am_N] [] M = am_Ex d 181 16 [(2, 1), (2, 2), (2, 8), (2, 14), (0, 4), am_N] [] M' ∧ (M'.1 : Int) = 39 ∧ (∀ q, k ≤ q → q < 4 → ∀ i, am_rd M' (15 + 6 * q) i = if i = 5 then 15 + 6 * q + 5 else if i = 4 then 15 + 6 * q + 4 else if i = 3 then 15 + 6 * q + 3 else if i = 2 then 15 + 6 * q + 2 else if i = 0 then 15 + 6 * q + 1 else 0) ∧ (∀ i, k ≤ i → i < 4 → am_rd M' 14 i = 15 + 6 * i) ∧ (∀ i, i < k → am_rd M' 14 i = am_rd M 14 i) ∧ ∀ c i, c ≠ 14 → (c < 15 + 6 * k ∨ 38 < c) → am_rd M' c i = am_rd M c i := by
  intro j
  induction j with
  | zero =>
    intro k M hk k0 hM
    have : k = 4 := by omega
    subst this
    exact ⟨M, rfl, by omega, fun q h1 h2 => by omega, fun i h1 h2 => by omega, fun _ _ => rfl, fun _ _ _ _ => rfl⟩
  | succ j ih =>
    intro k M hk k0 hM
    have hA : ((am_al M).1 : Int) = 15 + 6 * k + 1 := by rw [al_1]; omega
    have hs : 15 + 6 * k = 15 ∨ 15 + 6 * k = 21 ∨ 15 + 6 * k = 27 ∨ 15 + 6 * k = 33 := by omega
    have o8 : am_ob (15 + 6 * k) 8 = true := hS_ob hs
    obtain ⟨r1, M1, e1, n1, z1, f1⟩ := i_49 (d := d) hs hA (fun i => by rw [al_at hM, if_pos rfl])
    have oa : (am_ar 14 24 k && true || am_ar 14 25 k && am_ob (15 + 6 * k) 3) = true := by
      have : am_ar 14 24 k = true := by show (decide (0 ≤ k) && decide (k < 4)) = true; rw [decide_eq_true k0, decide_eq_true (by omega)]; rfl
      rw [this]; rfl
    obtain ⟨M2, e2, n2, z2, w2, v2, f2⟩ := ih (k + 1) (am_wr M1 14 k (15 + 6 * k)) (by omega) (by omega) (by rw [wr_1]; omega)
    refine ⟨M2, ?_, n2, fun q q0 q1 i => ?_, fun i i0 i1 => ?_, fun i hi => ?_, fun c i h1 h2 => ?_⟩
    · rw [aq_181_16, show am_ia 14 = true from rfl, ax_gt, show am_ln 14 = 4 from rfl, if_pos (by omega), hM, o8, ax_gt, ax_let, ax_gt, e1, Option.bind_some]
      dsimp only []
      rw [oa, ax_gt, ax_let, ax_w32 (by omega) (by omega), ax_let]
      exact e2
    · by_cases e : q = k
      · rw [e, f2 _ i (by omega) (by omega), ax_wc (by omega)]
        exact z1 i
      · exact z2 q (by omega) q1 i
    · by_cases e : i = k
      · rw [v2 i (by omega), e, ax_ws]
      · exact w2 i (by omega) i1
    · rw [v2 i (by omega), ax_wi (by omega), f1 14 i (by omega), al_at hM, if_neg (by omega)]
    · rw [f2 c i h1 (by omega), ax_wc h1, f1 c i (by omega), al_at hM, if_neg (by omega)]
end
