/-! the law's loop -/
section
variable {M : am_M} {d : Nat} {x3 L : Int}
theorem lw_r (y : Int) : 0 ≤ am_and y 63 ∧ am_and y 63 ≤ 63 := by
  unfold am_and
  obtain ⟨j, hj, e⟩ := pk_andE (Int32.ofInt y) (m := Int32.ofInt 63) 6 (by decide)
  rw [e]
  have hj : j ≤ 63 := by omega
  have h : (Int32.ofNat j).toInt = (j : Int) := ax_toN (by omega)
  first
    | (rw [h]; omega)
    | (have e2 : nI j = Int32.ofNat j := by first | rfl | (unfold nI; rfl)
       rw [e2, h]; omega)
theorem lw_all (hd : 9 ≤ d) (a : RR M) (h : LX M L x3) : LW d M x3 := by
  have r := lw_r (am_rd M (-1) x3)
  by_cases h40 : am_and (am_rd M (-1) x3) 63 ≤ 40
  · have c : ∃ k : Fin 41, am_and (am_rd M (-1) x3) 63 = (k.val : Int) := ⟨⟨(am_and (am_rd M (-1) x3) 63).toNat, by omega⟩, (Int.toNat_of_nonneg r.1).symm⟩
    obtain ⟨⟨k, hk⟩, e⟩ := c
    have e : am_and (am_rd M (-1) x3) 63 = (k : Int) := e
    match k, hk, e with
    | 0, _, e => exact lw_0 a h e
    | 1, _, e => exact lw_1 a h e
    | 2, _, e => exact lw_2 a h e
    | 3, _, e => exact lw_3 a h e
    | 4, _, e => exact lw_4 a h e
    | 5, _, e => exact lw_5 a h e
    | 6, _, e => exact lw_6 a h e
    | 7, _, e => exact lw_7 a h e
    | 8, _, e => exact lw_8 a h e
    | 9, _, e => exact lw_9 a h e
    | 10, _, e => exact lw_10 a h e
    | 11, _, e => exact lw_11 a h e
    | 12, _, e => exact lw_12 a h e
    | 13, _, e => exact lw_13 a h e
    | 14, _, e => exact lw_14 a h e
    | 15, _, e => exact lw_15 a h e
    | 16, _, e => exact lw_16 hd a h e
    | 17, _, e => exact lw_17 a h e
    | 18, _, e => exact lw_18 a h e
    | 19, _, e => exact lw_19 a h e
    | 20, _, e => exact lw_20 a h e
    | 21, _, e => exact lw_21 a h e
    | 22, _, e => exact lw_22 a h e
    | 23, _, e => exact lw_23 a h e
    | 24, _, e => exact lw_24 a h e
    | 25, _, e => exact lw_25 a h e
    | 26, _, e => exact lw_26 a h e
    | 27, _, e => exact lw_27 a h e
    | 28, _, e => exact lw_28 a h e
    | 29, _, e => exact lw_29 a h e
    | 30, _, e => exact lw_30 a h e
    | 31, _, e => exact lw_31 a h e
    | 32, _, e => exact lw_32 a h e
    | 33, _, e => exact lw_33 a h e
    | 34, _, e => exact lw_34 a h e
    | 35, _, e => exact lw_35 a h e
    | 36, _, e => exact lw_36 a h e
    | 37, _, e => exact lw_37 a h e
    | 38, _, e => exact lw_38 a h e
    | 39, _, e => exact lw_39 a h e
    | 40, _, e => exact lw_40 a h e
    | k + 41, hk, _ => exact absurd hk (by omega)
  · obtain ⟨hL, ⟨x0, x6, L1⟩, hR⟩ := h
    refine ⟨M, ?_, a, fun _ _ _ => rfl⟩
    refine (aq_306_11 d 1 447 x3 M).trans ?_
    refine (if_pos (show x3 ≤ am_w32 (am_rd M (-4) 0 - 6) by rw [hL, ax_w32 (by omega) (by omega)]; omega)).trans ?_
    refine (ax_gi x0 (show x3 < am_rd M (-4) 0 by omega)).trans ?_
    refine (if_neg (show ¬ am_and (am_rd M (-1) x3) 63 = 0 by omega)).trans ?_
    refine (if_neg (show ¬ am_and (am_rd M (-1) x3) 63 = 1 by omega)).trans ?_
    refine (if_neg (show ¬ am_and (am_rd M (-1) x3) 63 = 2 by omega)).trans ?_
    refine (if_neg (show ¬ am_and (am_rd M (-1) x3) 63 = 3 by omega)).trans ?_
    refine (if_neg (show ¬ am_and (am_rd M (-1) x3) 63 = 4 by omega)).trans ?_
    refine (if_neg (show ¬ am_and (am_rd M (-1) x3) 63 = 5 by omega)).trans ?_
    refine (if_neg (show ¬ am_and (am_rd M (-1) x3) 63 = 6 by omega)).trans ?_
    refine (if_neg (show ¬ am_and (am_rd M (-1) x3) 63 = 7 by omega)).trans ?_
    refine (if_neg (show ¬ am_and (am_rd M (-1) x3) 63 = 8 by omega)).trans ?_
    refine (if_neg (show ¬ am_and (am_rd M (-1) x3) 63 = 9 by omega)).trans ?_
    refine (if_neg (show ¬ am_and (am_rd M (-1) x3) 63 = 10 by omega)).trans ?_
    refine (if_neg (show ¬ am_and (am_rd M (-1) x3) 63 = 11 by omega)).trans ?_
    refine (if_neg (show ¬ am_and (am_rd M (-1) x3) 63 = 12 by omega)).trans ?_
    refine (if_neg (show ¬ am_and (am_rd M (-1) x3) 63 = 13 by omega)).trans ?_
    refine (if_neg (show ¬ am_and (am_rd M (-1) x3) 63 = 14 by omega)).trans ?_
    refine (if_neg (show ¬ am_and (am_rd M (-1) x3) 63 = 15 by omega)).trans ?_
    refine (if_neg (show ¬ am_and (am_rd M (-1) x3) 63 = 16 by omega)).trans ?_
    refine (if_neg (show ¬ am_and (am_rd M (-1) x3) 63 = 17 by omega)).trans ?_
    refine (if_neg (show ¬ am_and (am_rd M (-1) x3) 63 = 18 by omega)).trans ?_
    refine (if_neg (show ¬ am_and (am_rd M (-1) x3) 63 = 19 by omega)).trans ?_
    refine (if_neg (show ¬ am_and (am_rd M (-1) x3) 63 = 20 by omega)).trans ?_
    refine (if_neg (show ¬ am_and (am_rd M (-1) x3) 63 = 21 by omega)).trans ?_
    refine (if_neg (show ¬ am_and (am_rd M (-1) x3) 63 = 22 by omega)).trans ?_
    refine (if_neg (show ¬ am_and (am_rd M (-1) x3) 63 = 23 by omega)).trans ?_
    refine (if_neg (show ¬ am_and (am_rd M (-1) x3) 63 = 24 by omega)).trans ?_
    refine (if_neg (show ¬ am_and (am_rd M (-1) x3) 63 = 25 by omega)).trans ?_
    refine (if_neg (show ¬ am_and (am_rd M (-1) x3) 63 = 26 by omega)).trans ?_
    refine (if_neg (show ¬ am_and (am_rd M (-1) x3) 63 = 27 by omega)).trans ?_
    refine (if_neg (show ¬ am_and (am_rd M (-1) x3) 63 = 28 by omega)).trans ?_
    refine (if_neg (show ¬ am_and (am_rd M (-1) x3) 63 = 29 by omega)).trans ?_
    refine (if_neg (show ¬ am_and (am_rd M (-1) x3) 63 = 30 by omega)).trans ?_
    refine (if_neg (show ¬ am_and (am_rd M (-1) x3) 63 = 31 by omega)).trans ?_
    refine (if_neg (show ¬ am_and (am_rd M (-1) x3) 63 = 32 by omega)).trans ?_
    refine (if_neg (show ¬ am_and (am_rd M (-1) x3) 63 = 33 by omega)).trans ?_
    refine (if_neg (show ¬ am_and (am_rd M (-1) x3) 63 = 34 by omega)).trans ?_
    refine (if_neg (show ¬ am_and (am_rd M (-1) x3) 63 = 35 by omega)).trans ?_
    refine (if_neg (show ¬ am_and (am_rd M (-1) x3) 63 = 36 by omega)).trans ?_
    refine (if_neg (show ¬ am_and (am_rd M (-1) x3) 63 = 37 by omega)).trans ?_
    refine (if_neg (show ¬ am_and (am_rd M (-1) x3) 63 = 38 by omega)).trans ?_
    refine (if_neg (show ¬ am_and (am_rd M (-1) x3) 63 = 39 by omega)).trans ?_
    refine (if_neg (show ¬ am_and (am_rd M (-1) x3) 63 = 40 by omega)).trans ?_
    rw [aq_306_1065, ax_w32 (by omega) (by omega), ax_let]
theorem lw_end (hL : am_rd M (-4) 0 = L) (L0 : 0 ≤ L) (L1 : L ≤ 3072) (hx : L < x3 + 6) : am_Ex d 306 11 [(2, -1), (2, 1), (2, 447), (0, x3)] [] M = some (1, M) := by
  rw [aq_306_11, if_neg (show ¬ x3 ≤ am_w32 (am_rd M (-4) 0 - 6) by rw [hL, ax_w32 (by omega) (by omega)]; omega)]
theorem lw_loop (hd : 9 ≤ d) (L0 : 0 ≤ L) (L1 : L ≤ 3072) : ∀ (j : Nat) (x3 : Int) (M : am_M), L - x3 < 6 * (j : Int) + 6 → 0 ≤ x3 → RR M → am_rd M (-4) 0 = L → (∀ j, -2147483648 ≤ am_rd M (-1) j ∧ am_rd M (-1) j < 2147483648) → ∃ M', am_Ex d 306 11 [(2, -1), (2, 1), (2, 447), (0, x3)] [] M = some (1, M') ∧ M'.1 = 484 := by
  intro j
  induction j with
  | zero =>
    intro x3 M h x0 a hL hR
    exact ⟨M, lw_end hL L0 L1 (by omega), a.1.1⟩
  | succ j ih =>
    intro x3 M h x0 a hL hR
    by_cases hx : x3 + 6 ≤ L
    · obtain ⟨M2, e, R, n⟩ := lw_all (d := d) hd a ⟨hL, ⟨x0, hx, L1⟩, hR⟩
      obtain ⟨M', e', s⟩ := ih (x3 + 6) M2 (by omega) (by omega) R ((n _ _ (by decide)).trans hL) (fun j => by rw [n _ _ (by decide)]; exact hR j)
      exact ⟨M', e.trans e', s⟩
    · exact ⟨M, lw_end hL L0 L1 (by omega), a.1.1⟩
end
