/-! worth -/
section
variable {M : am_M} {d : Nat} {T x : Int}
theorem m_165 (hK : ax_K M) (hT : am_rd M 448 0 = T) (T0 : 0 ≤ T) (T8 : T ≤ 8) (hw : ∀ j, 0 ≤ j → j < 8 → 0 ≤ am_rd M 448 (10 + j) ∧ am_rd M 448 (10 + j) ≤ 99) : am_Call d 165 [(2, 447), (0, x)] M = some (ax_fo (fun t s => am_w32 (s + am_w32 (am_and (am_shr x t) 1 * am_rd M 448 (10 + t)))) (T - 0).toNat 0 0, M) := by
  rw [aq_165]
  refine ax_loop (X := fun k s => am_Ex d 165 5 [(2, 447), (0, x), (0, s), (0, k)] [] M) (E := fun s => some (s, M)) (n := T) (fun k _ => 0 ≤ k) ?_ ?_ _ _ _ (by omega) (by omega)
  · intro k s k0 k1
    refine ⟨?_, by omega⟩
    have b := hw k k0 (by omega)
    show am_Ex d 165 5 _ _ _ = am_Ex d 165 5 _ _ _
    rw [aq_165_5, kr_447_0 hK, show am_ob 447 11 = true from rfl, ax_gt]
    simp only [ax_a_448]
    simp (disch := first | assumption | omega) only [ax_gt, ax_gi, Option.bind_some, ax_gbl, ax_gb2, ax_gd]
    rw [hT, if_pos k1, m_65, Option.bind_some]
    dsimp only []
    rcases ax_01 (am_shr x k) with h | h
    · rw [if_pos (by rw [ax_b0, h]; decide), ax_let, ax_w32 (x := k + 1) (by omega) (by omega), ax_let, h]
      rw [show (0 : Int) * am_rd M 448 (10 + k) = 0 by omega, show am_w32 0 = 0 from rfl]
    · rw [if_neg (by rw [ax_b0, h]; decide), kr_447_0 hK, ax_w32 (x := 10 + k) (by omega) (by omega)]
      simp (disch := first | assumption | omega) only [ax_gt, ax_gi, Option.bind_some, ax_gbl, ax_gb2, ax_gd, Int.reduceEq, Int.reduceNe, Int.reduceLT, Int.reduceLE, Int.reduceAdd, Int.reduceSub, Int.reduceMul, Int.reduceNeg, reduceIte, ite_true, ite_false, true_and, and_true, false_and, and_false, true_or, or_true, false_or, or_false, not_true_eq_false, not_false_eq_true, and_self, or_self, eq_self, ite_self, decide_true, decide_false, Bool.true_and, Bool.and_true, Bool.and_self, Bool.false_and, Int.add_zero, Int.zero_add, ax_a_448]
      rw [ax_let, ax_w32 (x := k + 1) (by omega) (by omega), ax_let, h]
      rw [show (1 : Int) * am_rd M 448 (10 + k) = am_rd M 448 (10 + k) by omega, ax_w32 (x := am_rd M 448 (10 + k)) (by omega) (by omega)]
  · intro s _
    show am_Ex d 165 5 _ _ _ = _
    rw [aq_165_5, kr_447_0 hK, show am_ob 447 11 = true from rfl, ax_gt]
    simp only [ax_a_448]
    simp (disch := first | assumption | omega) only [ax_gt, ax_gi, Option.bind_some, ax_gbl, ax_gb2, ax_gd]
    rw [hT, if_neg (by omega)]
end
